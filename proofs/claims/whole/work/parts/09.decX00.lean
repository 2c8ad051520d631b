theorem dX0_init_0 : decode cX0_init 0 = .ok (.aload_n 0, 1) := by decide +kernel
theorem dX0_init_1 : decode cX0_init 1 = .ok (.invokespecial 3, 3) := by decide +kernel
theorem dX0_init_4 : decode cX0_init 4 = .ok (.aload_n 0, 1) := by decide +kernel
theorem dX0_init_5 : decode cX0_init 5 = .ok (.sipush 2048, 3) := by decide +kernel
theorem dX0_init_8 : decode cX0_init 8 = .ok (.newarray .int, 2) := by decide +kernel
theorem dX0_init_10 : decode cX0_init 10 = .ok (.putfield 9, 3) := by decide +kernel
theorem dX0_init_13 : decode cX0_init 13 = .ok (.aload_n 0, 1) := by decide +kernel
theorem dX0_init_14 : decode cX0_init 14 = .ok (.sipush 2048, 3) := by decide +kernel
theorem dX0_init_17 : decode cX0_init 17 = .ok (.newarray .int, 2) := by decide +kernel
theorem dX0_init_19 : decode cX0_init 19 = .ok (.putfield 15, 3) := by decide +kernel
theorem dX0_init_22 : decode cX0_init 22 = .ok (.aload_n 0, 1) := by decide +kernel
theorem dX0_init_23 : decode cX0_init 23 = .ok (.sipush 2048, 3) := by decide +kernel
theorem dX0_init_26 : decode cX0_init 26 = .ok (.newarray .int, 2) := by decide +kernel
theorem dX0_init_28 : decode cX0_init 28 = .ok (.putfield 18, 3) := by decide +kernel
theorem dX0_init_31 : decode cX0_init 31 = .ok (.aload_n 0, 1) := by decide +kernel
theorem dX0_init_32 : decode cX0_init 32 = .ok (.sipush 2048, 3) := by decide +kernel
theorem dX0_init_35 : decode cX0_init 35 = .ok (.newarray .int, 2) := by decide +kernel
theorem dX0_init_37 : decode cX0_init 37 = .ok (.putfield 21, 3) := by decide +kernel
theorem dX0_init_40 : decode cX0_init 40 = .ok (.aload_n 0, 1) := by decide +kernel
theorem dX0_init_41 : decode cX0_init 41 = .ok (.sipush 256, 3) := by decide +kernel
theorem dX0_init_44 : decode cX0_init 44 = .ok (.newarray .int, 2) := by decide +kernel
theorem dX0_init_46 : decode cX0_init 46 = .ok (.putfield 24, 3) := by decide +kernel
theorem dX0_init_49 : decode cX0_init 49 = .ok (.aload_n 0, 1) := by decide +kernel
theorem dX0_init_50 : decode cX0_init 50 = .ok (.sipush 256, 3) := by decide +kernel
theorem dX0_init_53 : decode cX0_init 53 = .ok (.newarray .int, 2) := by decide +kernel
theorem dX0_init_55 : decode cX0_init 55 = .ok (.putfield 27, 3) := by decide +kernel
theorem dX0_init_58 : decode cX0_init 58 = .ok (.aload_n 0, 1) := by decide +kernel
theorem dX0_init_59 : decode cX0_init 59 = .ok (.bipush 8, 2) := by decide +kernel
theorem dX0_init_61 : decode cX0_init 61 = .ok (.newarray .int, 2) := by decide +kernel
theorem dX0_init_63 : decode cX0_init 63 = .ok (.putfield 30, 3) := by decide +kernel
theorem dX0_init_66 : decode cX0_init 66 = .ok (.aload_n 0, 1) := by decide +kernel
theorem dX0_init_67 : decode cX0_init 67 = .ok (.new 33, 3) := by decide +kernel
theorem dX0_init_70 : decode cX0_init 70 = .ok (.dup, 1) := by decide +kernel
theorem dX0_init_71 : decode cX0_init 71 = .ok (.invokespecial 35, 3) := by decide +kernel
theorem dX0_init_74 : decode cX0_init 74 = .ok (.putfield 36, 3) := by decide +kernel
theorem dX0_init_77 : decode cX0_init 77 = .ok (.aload_n 0, 1) := by decide +kernel
theorem dX0_init_78 : decode cX0_init 78 = .ok (.new 40, 3) := by decide +kernel
theorem dX0_init_81 : decode cX0_init 81 = .ok (.dup, 1) := by decide +kernel
theorem dX0_init_82 : decode cX0_init 82 = .ok (.invokespecial 42, 3) := by decide +kernel
theorem dX0_init_85 : decode cX0_init 85 = .ok (.putfield 43, 3) := by decide +kernel
theorem dX0_init_88 : decode cX0_init 88 = .ok (.return_, 1) := by decide +kernel
theorem dX0_stateOf_0 : decode cX0_stateOf 0 = .ok (.iload_n 0, 1) := by decide +kernel
theorem dX0_stateOf_1 : decode cX0_stateOf 1 = .ok (.bipush 8, 2) := by decide +kernel
theorem dX0_stateOf_3 : decode cX0_stateOf 3 = .ok (.imul, 1) := by decide +kernel
theorem dX0_stateOf_4 : decode cX0_stateOf 4 = .ok (.iload_n 1, 1) := by decide +kernel
theorem dX0_stateOf_5 : decode cX0_stateOf 5 = .ok (.iadd, 1) := by decide +kernel
theorem dX0_stateOf_6 : decode cX0_stateOf 6 = .ok (.ireturn, 1) := by decide +kernel
theorem dX0_stateAfter_0 : decode cX0_stateAfter 0 = .ok (.iload_n 0, 1) := by decide +kernel
theorem dX0_stateAfter_1 : decode cX0_stateAfter 1 = .ok (.iconst 1, 1) := by decide +kernel
theorem dX0_stateAfter_2 : decode cX0_stateAfter 2 = .ok (.iload_n 1, 1) := by decide +kernel
theorem dX0_stateAfter_3 : decode cX0_stateAfter 3 = .ok (.ishl, 1) := by decide +kernel
theorem dX0_stateAfter_4 : decode cX0_stateAfter 4 = .ok (.ior, 1) := by decide +kernel
theorem dX0_stateAfter_5 : decode cX0_stateAfter 5 = .ok (.bipush 8, 2) := by decide +kernel
theorem dX0_stateAfter_7 : decode cX0_stateAfter 7 = .ok (.imul, 1) := by decide +kernel
theorem dX0_stateAfter_8 : decode cX0_stateAfter 8 = .ok (.iload_n 1, 1) := by decide +kernel
theorem dX0_stateAfter_9 : decode cX0_stateAfter 9 = .ok (.iadd, 1) := by decide +kernel
theorem dX0_stateAfter_10 : decode cX0_stateAfter 10 = .ok (.ireturn, 1) := by decide +kernel
theorem dX0_isState_0 : decode cX0_isState 0 = .ok (.iload_n 0, 1) := by decide +kernel
theorem dX0_isState_1 : decode cX0_isState 1 = .ok (.ifCond .ne 15, 3) := by decide +kernel
theorem dX0_isState_4 : decode cX0_isState 4 = .ok (.iload_n 1, 1) := by decide +kernel
theorem dX0_isState_5 : decode cX0_isState 5 = .ok (.ifCond .ne 7, 3) := by decide +kernel
theorem dX0_isState_8 : decode cX0_isState 8 = .ok (.iconst 1, 1) := by decide +kernel
theorem dX0_isState_9 : decode cX0_isState 9 = .ok (.goto 12, 3) := by decide +kernel
theorem dX0_isState_12 : decode cX0_isState 12 = .ok (.iconst 0, 1) := by decide +kernel
theorem dX0_isState_13 : decode cX0_isState 13 = .ok (.goto 8, 3) := by decide +kernel
theorem dX0_isState_16 : decode cX0_isState 16 = .ok (.iload_n 0, 1) := by decide +kernel
theorem dX0_isState_17 : decode cX0_isState 17 = .ok (.iload_n 1, 1) := by decide +kernel
theorem dX0_isState_18 : decode cX0_isState 18 = .ok (.invokestatic 47, 3) := by decide +kernel
theorem dX0_isState_21 : decode cX0_isState 21 = .ok (.ireturn, 1) := by decide +kernel
theorem dX0_total_0 : decode cX0_total 0 = .ok (.aload_n 0, 1) := by decide +kernel
theorem dX0_total_1 : decode cX0_total 1 = .ok (.getfield 15, 3) := by decide +kernel
theorem dX0_total_4 : decode cX0_total 4 = .ok (.iconst 0, 1) := by decide +kernel
theorem dX0_total_5 : decode cX0_total 5 = .ok (.iaload, 1) := by decide +kernel
theorem dX0_total_6 : decode cX0_total 6 = .ok (.ireturn, 1) := by decide +kernel
theorem dX0_search_0 : decode cX0_search 0 = .ok (.aload_n 0, 1) := by decide +kernel
theorem dX0_search_1 : decode cX0_search 1 = .ok (.aload_n 1, 1) := by decide +kernel
theorem dX0_search_2 : decode cX0_search 2 = .ok (.getfield 51, 3) := by decide +kernel
theorem dX0_search_5 : decode cX0_search 5 = .ok (.putfield 57, 3) := by decide +kernel
theorem dX0_search_8 : decode cX0_search 8 = .ok (.aload_n 0, 1) := by decide +kernel
theorem dX0_search_9 : decode cX0_search 9 = .ok (.iconst 1, 1) := by decide +kernel
theorem dX0_search_10 : decode cX0_search 10 = .ok (.aload_n 0, 1) := by decide +kernel
theorem dX0_search_11 : decode cX0_search 11 = .ok (.getfield 57, 3) := by decide +kernel
theorem dX0_search_14 : decode cX0_search 14 = .ok (.ishl, 1) := by decide +kernel
theorem dX0_search_15 : decode cX0_search 15 = .ok (.iconst 1, 1) := by decide +kernel
theorem dX0_search_16 : decode cX0_search 16 = .ok (.isub, 1) := by decide +kernel
theorem dX0_search_17 : decode cX0_search 17 = .ok (.putfield 58, 3) := by decide +kernel
theorem dX0_search_20 : decode cX0_search 20 = .ok (.aload_n 0, 1) := by decide +kernel
theorem dX0_search_21 : decode cX0_search 21 = .ok (.bipush (-6), 2) := by decide +kernel
theorem dX0_search_23 : decode cX0_search 23 = .ok (.putfield 61, 3) := by decide +kernel
theorem dX0_search_26 : decode cX0_search 26 = .ok (.aload_n 0, 1) := by decide +kernel
theorem dX0_search_27 : decode cX0_search 27 = .ok (.aload_n 1, 1) := by decide +kernel
theorem dX0_search_28 : decode cX0_search 28 = .ok (.invokevirtual 64, 3) := by decide +kernel
theorem dX0_search_31 : decode cX0_search 31 = .ok (.aload_n 0, 1) := by decide +kernel
theorem dX0_search_32 : decode cX0_search 32 = .ok (.getfield 36, 3) := by decide +kernel
theorem dX0_search_35 : decode cX0_search 35 = .ok (.aload_n 1, 1) := by decide +kernel
theorem dX0_search_36 : decode cX0_search 36 = .ok (.sipush 1023, 3) := by decide +kernel
theorem dX0_search_39 : decode cX0_search 39 = .ok (.invokevirtual 68, 3) := by decide +kernel
theorem dX0_search_42 : decode cX0_search 42 = .ok (.aload_n 0, 1) := by decide +kernel
theorem dX0_search_43 : decode cX0_search 43 = .ok (.aload_n 0, 1) := by decide +kernel
theorem dX0_search_44 : decode cX0_search 44 = .ok (.getfield 36, 3) := by decide +kernel
theorem dX0_search_47 : decode cX0_search 47 = .ok (.invokevirtual 72, 3) := by decide +kernel
theorem dX0_search_50 : decode cX0_search 50 = .ok (.aload_n 0, 1) := by decide +kernel
theorem dX0_search_51 : decode cX0_search 51 = .ok (.aload_n 0, 1) := by decide +kernel
theorem dX0_search_52 : decode cX0_search 52 = .ok (.getfield 21, 3) := by decide +kernel
theorem dX0_search_55 : decode cX0_search 55 = .ok (.iconst 0, 1) := by decide +kernel
theorem dX0_search_56 : decode cX0_search 56 = .ok (.iaload, 1) := by decide +kernel
theorem dX0_search_57 : decode cX0_search 57 = .ok (.aload_n 1, 1) := by decide +kernel
theorem dX0_search_58 : decode cX0_search 58 = .ok (.invokevirtual 76, 3) := by decide +kernel
theorem dX0_search_61 : decode cX0_search 61 = .ok (.invokestatic 80, 3) := by decide +kernel
theorem dX0_search_64 : decode cX0_search 64 = .ok (.isub, 1) := by decide +kernel
theorem dX0_search_65 : decode cX0_search 65 = .ok (.putfield 86, 3) := by decide +kernel
theorem dX0_search_68 : decode cX0_search 68 = .ok (.aload_n 0, 1) := by decide +kernel
theorem dX0_search_69 : decode cX0_search 69 = .ok (.aload_n 0, 1) := by decide +kernel
theorem dX0_search_70 : decode cX0_search 70 = .ok (.getfield 36, 3) := by decide +kernel
theorem dX0_search_73 : decode cX0_search 73 = .ok (.invokevirtual 89, 3) := by decide +kernel
theorem dX0_search_76 : decode cX0_search 76 = .ok (.aload_n 0, 1) := by decide +kernel
theorem dX0_search_77 : decode cX0_search 77 = .ok (.invokevirtual 92, 3) := by decide +kernel
theorem dX0_search_80 : decode cX0_search 80 = .ok (.aload_n 0, 1) := by decide +kernel
theorem dX0_search_81 : decode cX0_search 81 = .ok (.invokevirtual 95, 3) := by decide +kernel
theorem dX0_search_84 : decode cX0_search 84 = .ok (.return_, 1) := by decide +kernel
theorem dX0_openAllowed_0 : decode cX0_openAllowed 0 = .ok (.iconst 0, 1) := by decide +kernel
theorem dX0_openAllowed_1 : decode cX0_openAllowed 1 = .ok (.istore_n 2, 1) := by decide +kernel
theorem dX0_openAllowed_2 : decode cX0_openAllowed 2 = .ok (.iload_n 2, 1) := by decide +kernel
theorem dX0_openAllowed_3 : decode cX0_openAllowed 3 = .ok (.aload_n 0, 1) := by decide +kernel
theorem dX0_openAllowed_4 : decode cX0_openAllowed 4 = .ok (.getfield 58, 3) := by decide +kernel
theorem dX0_openAllowed_7 : decode cX0_openAllowed 7 = .ok (.if_icmp .gt 87, 3) := by decide +kernel
theorem dX0_openAllowed_10 : decode cX0_openAllowed 10 = .ok (.iconst 0, 1) := by decide +kernel
theorem dX0_openAllowed_11 : decode cX0_openAllowed 11 = .ok (.istore_n 3, 1) := by decide +kernel
theorem dX0_openAllowed_12 : decode cX0_openAllowed 12 = .ok (.iconst 0, 1) := by decide +kernel
theorem dX0_openAllowed_13 : decode cX0_openAllowed 13 = .ok (.istore 4, 2) := by decide +kernel
theorem dX0_openAllowed_15 : decode cX0_openAllowed 15 = .ok (.iload 4, 2) := by decide +kernel
theorem dX0_openAllowed_17 : decode cX0_openAllowed 17 = .ok (.aload_n 0, 1) := by decide +kernel
theorem dX0_openAllowed_18 : decode cX0_openAllowed 18 = .ok (.getfield 57, 3) := by decide +kernel
theorem dX0_openAllowed_21 : decode cX0_openAllowed 21 = .ok (.if_icmp .ge 37, 3) := by decide +kernel
theorem dX0_openAllowed_24 : decode cX0_openAllowed 24 = .ok (.iload_n 2, 1) := by decide +kernel
theorem dX0_openAllowed_25 : decode cX0_openAllowed 25 = .ok (.iload 4, 2) := by decide +kernel
theorem dX0_openAllowed_27 : decode cX0_openAllowed 27 = .ok (.invokestatic 47, 3) := by decide +kernel
theorem dX0_openAllowed_30 : decode cX0_openAllowed 30 = .ok (.ifCond .ne 22, 3) := by decide +kernel
theorem dX0_openAllowed_33 : decode cX0_openAllowed 33 = .ok (.aload_n 1, 1) := by decide +kernel
theorem dX0_openAllowed_34 : decode cX0_openAllowed 34 = .ok (.getfield 98, 3) := by decide +kernel
theorem dX0_openAllowed_37 : decode cX0_openAllowed 37 = .ok (.iload 4, 2) := by decide +kernel
theorem dX0_openAllowed_39 : decode cX0_openAllowed 39 = .ok (.iaload, 1) := by decide +kernel
theorem dX0_openAllowed_40 : decode cX0_openAllowed 40 = .ok (.iload_n 2, 1) := by decide +kernel
theorem dX0_openAllowed_41 : decode cX0_openAllowed 41 = .ok (.iand, 1) := by decide +kernel
theorem dX0_openAllowed_42 : decode cX0_openAllowed 42 = .ok (.ifCond .ne 10, 3) := by decide +kernel
theorem dX0_openAllowed_45 : decode cX0_openAllowed 45 = .ok (.iload_n 3, 1) := by decide +kernel
theorem dX0_openAllowed_46 : decode cX0_openAllowed 46 = .ok (.iconst 1, 1) := by decide +kernel
theorem dX0_openAllowed_47 : decode cX0_openAllowed 47 = .ok (.iload 4, 2) := by decide +kernel
theorem dX0_openAllowed_49 : decode cX0_openAllowed 49 = .ok (.ishl, 1) := by decide +kernel
theorem dX0_openAllowed_50 : decode cX0_openAllowed 50 = .ok (.ior, 1) := by decide +kernel
theorem dX0_openAllowed_51 : decode cX0_openAllowed 51 = .ok (.istore_n 3, 1) := by decide +kernel
theorem dX0_openAllowed_52 : decode cX0_openAllowed 52 = .ok (.iinc 4 1, 3) := by decide +kernel
theorem dX0_openAllowed_55 : decode cX0_openAllowed 55 = .ok (.goto (-40), 3) := by decide +kernel
theorem dX0_openAllowed_58 : decode cX0_openAllowed 58 = .ok (.iconst 0, 1) := by decide +kernel
theorem dX0_openAllowed_59 : decode cX0_openAllowed 59 = .ok (.istore 4, 2) := by decide +kernel
theorem dX0_openAllowed_61 : decode cX0_openAllowed 61 = .ok (.iload 4, 2) := by decide +kernel
theorem dX0_openAllowed_63 : decode cX0_openAllowed 63 = .ok (.aload_n 0, 1) := by decide +kernel
theorem dX0_openAllowed_64 : decode cX0_openAllowed 64 = .ok (.getfield 57, 3) := by decide +kernel
theorem dX0_openAllowed_67 : decode cX0_openAllowed 67 = .ok (.if_icmp .ge 21, 3) := by decide +kernel
theorem dX0_openAllowed_70 : decode cX0_openAllowed 70 = .ok (.aload_n 0, 1) := by decide +kernel
theorem dX0_openAllowed_71 : decode cX0_openAllowed 71 = .ok (.getfield 9, 3) := by decide +kernel
theorem dX0_openAllowed_74 : decode cX0_openAllowed 74 = .ok (.iload_n 2, 1) := by decide +kernel
theorem dX0_openAllowed_75 : decode cX0_openAllowed 75 = .ok (.iload 4, 2) := by decide +kernel
theorem dX0_openAllowed_77 : decode cX0_openAllowed 77 = .ok (.invokestatic 101, 3) := by decide +kernel
theorem dX0_openAllowed_80 : decode cX0_openAllowed 80 = .ok (.iload_n 3, 1) := by decide +kernel
theorem dX0_openAllowed_81 : decode cX0_openAllowed 81 = .ok (.iastore, 1) := by decide +kernel
theorem dX0_openAllowed_82 : decode cX0_openAllowed 82 = .ok (.iinc 4 1, 3) := by decide +kernel
theorem dX0_openAllowed_85 : decode cX0_openAllowed 85 = .ok (.goto (-24), 3) := by decide +kernel
theorem dX0_openAllowed_88 : decode cX0_openAllowed 88 = .ok (.iinc 2 1, 3) := by decide +kernel
theorem dX0_openAllowed_91 : decode cX0_openAllowed 91 = .ok (.goto (-89), 3) := by decide +kernel
theorem dX0_openAllowed_94 : decode cX0_openAllowed 94 = .ok (.return_, 1) := by decide +kernel
theorem dX0_costRest_0 : decode cX0_costRest 0 = .ok (.aload_n 0, 1) := by decide +kernel
theorem dX0_costRest_1 : decode cX0_costRest 1 = .ok (.getfield 58, 3) := by decide +kernel
theorem dX0_costRest_4 : decode cX0_costRest 4 = .ok (.istore_n 2, 1) := by decide +kernel
theorem dX0_costRest_5 : decode cX0_costRest 5 = .ok (.iload_n 2, 1) := by decide +kernel
theorem dX0_costRest_6 : decode cX0_costRest 6 = .ok (.ifCond .lt 62, 3) := by decide +kernel
theorem dX0_costRest_9 : decode cX0_costRest 9 = .ok (.iconst 0, 1) := by decide +kernel
theorem dX0_costRest_10 : decode cX0_costRest 10 = .ok (.istore_n 3, 1) := by decide +kernel
theorem dX0_costRest_11 : decode cX0_costRest 11 = .ok (.iload_n 3, 1) := by decide +kernel
theorem dX0_costRest_12 : decode cX0_costRest 12 = .ok (.aload_n 0, 1) := by decide +kernel
theorem dX0_costRest_13 : decode cX0_costRest 13 = .ok (.getfield 57, 3) := by decide +kernel
theorem dX0_costRest_16 : decode cX0_costRest 16 = .ok (.if_icmp .ge 46, 3) := by decide +kernel
theorem dX0_costRest_19 : decode cX0_costRest 19 = .ok (.iload_n 2, 1) := by decide +kernel
theorem dX0_costRest_20 : decode cX0_costRest 20 = .ok (.iload_n 3, 1) := by decide +kernel
theorem dX0_costRest_21 : decode cX0_costRest 21 = .ok (.invokestatic 105, 3) := by decide +kernel
theorem dX0_costRest_24 : decode cX0_costRest 24 = .ok (.ifCond .eq 32, 3) := by decide +kernel
theorem dX0_costRest_27 : decode cX0_costRest 27 = .ok (.aload_n 0, 1) := by decide +kernel
theorem dX0_costRest_28 : decode cX0_costRest 28 = .ok (.getfield 21, 3) := by decide +kernel
theorem dX0_costRest_31 : decode cX0_costRest 31 = .ok (.iload_n 2, 1) := by decide +kernel
theorem dX0_costRest_32 : decode cX0_costRest 32 = .ok (.iload_n 3, 1) := by decide +kernel
theorem dX0_costRest_33 : decode cX0_costRest 33 = .ok (.invokestatic 101, 3) := by decide +kernel
theorem dX0_costRest_36 : decode cX0_costRest 36 = .ok (.iload_n 2, 1) := by decide +kernel
theorem dX0_costRest_37 : decode cX0_costRest 37 = .ok (.aload_n 0, 1) := by decide +kernel
theorem dX0_costRest_38 : decode cX0_costRest 38 = .ok (.getfield 58, 3) := by decide +kernel
theorem dX0_costRest_41 : decode cX0_costRest 41 = .ok (.if_icmp .ne 7, 3) := by decide +kernel
theorem dX0_costRest_44 : decode cX0_costRest 44 = .ok (.iconst 0, 1) := by decide +kernel
theorem dX0_costRest_45 : decode cX0_costRest 45 = .ok (.goto 10, 3) := by decide +kernel
theorem dX0_costRest_48 : decode cX0_costRest 48 = .ok (.aload_n 0, 1) := by decide +kernel
theorem dX0_costRest_49 : decode cX0_costRest 49 = .ok (.aload_n 1, 1) := by decide +kernel
theorem dX0_costRest_50 : decode cX0_costRest 50 = .ok (.iload_n 2, 1) := by decide +kernel
theorem dX0_costRest_51 : decode cX0_costRest 51 = .ok (.iload_n 3, 1) := by decide +kernel
theorem dX0_costRest_52 : decode cX0_costRest 52 = .ok (.invokevirtual 108, 3) := by decide +kernel
theorem dX0_costRest_55 : decode cX0_costRest 55 = .ok (.iastore, 1) := by decide +kernel
theorem dX0_costRest_56 : decode cX0_costRest 56 = .ok (.iinc 3 1, 3) := by decide +kernel
theorem dX0_costRest_59 : decode cX0_costRest 59 = .ok (.goto (-48), 3) := by decide +kernel
theorem dX0_costRest_62 : decode cX0_costRest 62 = .ok (.iinc 2 (-1), 3) := by decide +kernel
theorem dX0_costRest_65 : decode cX0_costRest 65 = .ok (.goto (-60), 3) := by decide +kernel
theorem dX0_costRest_68 : decode cX0_costRest 68 = .ok (.return_, 1) := by decide +kernel
theorem dX0_cheapestOn_0 : decode cX0_cheapestOn 0 = .ok (.aload_n 0, 1) := by decide +kernel
theorem dX0_cheapestOn_1 : decode cX0_cheapestOn 1 = .ok (.getfield 9, 3) := by decide +kernel
theorem dX0_cheapestOn_4 : decode cX0_cheapestOn 4 = .ok (.iload_n 2, 1) := by decide +kernel
theorem dX0_cheapestOn_5 : decode cX0_cheapestOn 5 = .ok (.iload_n 3, 1) := by decide +kernel
theorem dX0_cheapestOn_6 : decode cX0_cheapestOn 6 = .ok (.invokestatic 101, 3) := by decide +kernel
theorem dX0_cheapestOn_9 : decode cX0_cheapestOn 9 = .ok (.iaload, 1) := by decide +kernel
theorem dX0_cheapestOn_10 : decode cX0_cheapestOn 10 = .ok (.istore 4, 2) := by decide +kernel
theorem dX0_cheapestOn_12 : decode cX0_cheapestOn 12 = .ok (.ldc 112, 2) := by decide +kernel
theorem dX0_cheapestOn_14 : decode cX0_cheapestOn 14 = .ok (.istore 5, 2) := by decide +kernel
theorem dX0_cheapestOn_16 : decode cX0_cheapestOn 16 = .ok (.iconst 0, 1) := by decide +kernel
theorem dX0_cheapestOn_17 : decode cX0_cheapestOn 17 = .ok (.istore 6, 2) := by decide +kernel
theorem dX0_cheapestOn_19 : decode cX0_cheapestOn 19 = .ok (.iload 6, 2) := by decide +kernel
theorem dX0_cheapestOn_21 : decode cX0_cheapestOn 21 = .ok (.aload_n 0, 1) := by decide +kernel
theorem dX0_cheapestOn_22 : decode cX0_cheapestOn 22 = .ok (.getfield 57, 3) := by decide +kernel
theorem dX0_cheapestOn_25 : decode cX0_cheapestOn 25 = .ok (.if_icmp .ge 50, 3) := by decide +kernel
theorem dX0_cheapestOn_28 : decode cX0_cheapestOn 28 = .ok (.iload 4, 2) := by decide +kernel
theorem dX0_cheapestOn_30 : decode cX0_cheapestOn 30 = .ok (.iload 6, 2) := by decide +kernel
theorem dX0_cheapestOn_32 : decode cX0_cheapestOn 32 = .ok (.invokestatic 47, 3) := by decide +kernel
theorem dX0_cheapestOn_35 : decode cX0_cheapestOn 35 = .ok (.ifCond .eq 34, 3) := by decide +kernel
theorem dX0_cheapestOn_38 : decode cX0_cheapestOn 38 = .ok (.aload_n 0, 1) := by decide +kernel
theorem dX0_cheapestOn_39 : decode cX0_cheapestOn 39 = .ok (.getfield 21, 3) := by decide +kernel
theorem dX0_cheapestOn_42 : decode cX0_cheapestOn 42 = .ok (.iload_n 2, 1) := by decide +kernel
theorem dX0_cheapestOn_43 : decode cX0_cheapestOn 43 = .ok (.iload 6, 2) := by decide +kernel
theorem dX0_cheapestOn_45 : decode cX0_cheapestOn 45 = .ok (.invokestatic 113, 3) := by decide +kernel
theorem dX0_cheapestOn_48 : decode cX0_cheapestOn 48 = .ok (.iaload, 1) := by decide +kernel
theorem dX0_cheapestOn_49 : decode cX0_cheapestOn 49 = .ok (.aload_n 1, 1) := by decide +kernel
theorem dX0_cheapestOn_50 : decode cX0_cheapestOn 50 = .ok (.iload_n 2, 1) := by decide +kernel
theorem dX0_cheapestOn_51 : decode cX0_cheapestOn 51 = .ok (.iload_n 3, 1) := by decide +kernel
theorem dX0_cheapestOn_52 : decode cX0_cheapestOn 52 = .ok (.iload 6, 2) := by decide +kernel
theorem dX0_cheapestOn_54 : decode cX0_cheapestOn 54 = .ok (.invokevirtual 116, 3) := by decide +kernel
theorem dX0_cheapestOn_57 : decode cX0_cheapestOn 57 = .ok (.iadd, 1) := by decide +kernel
theorem dX0_cheapestOn_58 : decode cX0_cheapestOn 58 = .ok (.istore 7, 2) := by decide +kernel
theorem dX0_cheapestOn_60 : decode cX0_cheapestOn 60 = .ok (.iload 5, 2) := by decide +kernel
theorem dX0_cheapestOn_62 : decode cX0_cheapestOn 62 = .ok (.iload 7, 2) := by decide +kernel
theorem dX0_cheapestOn_64 : decode cX0_cheapestOn 64 = .ok (.invokestatic 122, 3) := by decide +kernel
theorem dX0_cheapestOn_67 : decode cX0_cheapestOn 67 = .ok (.istore 5, 2) := by decide +kernel
theorem dX0_cheapestOn_69 : decode cX0_cheapestOn 69 = .ok (.iinc 6 1, 3) := by decide +kernel
theorem dX0_cheapestOn_72 : decode cX0_cheapestOn 72 = .ok (.goto (-53), 3) := by decide +kernel
theorem dX0_cheapestOn_75 : decode cX0_cheapestOn 75 = .ok (.iload 5, 2) := by decide +kernel
theorem dX0_cheapestOn_77 : decode cX0_cheapestOn 77 = .ok (.ireturn, 1) := by decide +kernel
theorem dX0_keepCheapest_0 : decode cX0_keepCheapest 0 = .ok (.iconst 0, 1) := by decide +kernel
theorem dX0_keepCheapest_1 : decode cX0_keepCheapest 1 = .ok (.istore_n 2, 1) := by decide +kernel
theorem dX0_keepCheapest_2 : decode cX0_keepCheapest 2 = .ok (.iload_n 2, 1) := by decide +kernel
theorem dX0_keepCheapest_3 : decode cX0_keepCheapest 3 = .ok (.aload_n 0, 1) := by decide +kernel
theorem dX0_keepCheapest_4 : decode cX0_keepCheapest 4 = .ok (.getfield 58, 3) := by decide +kernel
theorem dX0_keepCheapest_7 : decode cX0_keepCheapest 7 = .ok (.if_icmp .gt 50, 3) := by decide +kernel
theorem dX0_keepCheapest_10 : decode cX0_keepCheapest 10 = .ok (.iconst 0, 1) := by decide +kernel
theorem dX0_keepCheapest_11 : decode cX0_keepCheapest 11 = .ok (.istore_n 3, 1) := by decide +kernel
theorem dX0_keepCheapest_12 : decode cX0_keepCheapest 12 = .ok (.iload_n 3, 1) := by decide +kernel
theorem dX0_keepCheapest_13 : decode cX0_keepCheapest 13 = .ok (.aload_n 0, 1) := by decide +kernel
theorem dX0_keepCheapest_14 : decode cX0_keepCheapest 14 = .ok (.getfield 57, 3) := by decide +kernel
theorem dX0_keepCheapest_17 : decode cX0_keepCheapest 17 = .ok (.if_icmp .ge 34, 3) := by decide +kernel
theorem dX0_keepCheapest_20 : decode cX0_keepCheapest 20 = .ok (.iload_n 2, 1) := by decide +kernel
theorem dX0_keepCheapest_21 : decode cX0_keepCheapest 21 = .ok (.iload_n 3, 1) := by decide +kernel
theorem dX0_keepCheapest_22 : decode cX0_keepCheapest 22 = .ok (.invokestatic 105, 3) := by decide +kernel
theorem dX0_keepCheapest_25 : decode cX0_keepCheapest 25 = .ok (.ifCond .eq 20, 3) := by decide +kernel
theorem dX0_keepCheapest_28 : decode cX0_keepCheapest 28 = .ok (.aload_n 0, 1) := by decide +kernel
theorem dX0_keepCheapest_29 : decode cX0_keepCheapest 29 = .ok (.getfield 9, 3) := by decide +kernel
theorem dX0_keepCheapest_32 : decode cX0_keepCheapest 32 = .ok (.iload_n 2, 1) := by decide +kernel
theorem dX0_keepCheapest_33 : decode cX0_keepCheapest 33 = .ok (.iload_n 3, 1) := by decide +kernel
theorem dX0_keepCheapest_34 : decode cX0_keepCheapest 34 = .ok (.invokestatic 101, 3) := by decide +kernel
theorem dX0_keepCheapest_37 : decode cX0_keepCheapest 37 = .ok (.aload_n 0, 1) := by decide +kernel
theorem dX0_keepCheapest_38 : decode cX0_keepCheapest 38 = .ok (.aload_n 1, 1) := by decide +kernel
theorem dX0_keepCheapest_39 : decode cX0_keepCheapest 39 = .ok (.iload_n 2, 1) := by decide +kernel
theorem dX0_keepCheapest_40 : decode cX0_keepCheapest 40 = .ok (.iload_n 3, 1) := by decide +kernel
theorem dX0_keepCheapest_41 : decode cX0_keepCheapest 41 = .ok (.invokevirtual 127, 3) := by decide +kernel
theorem dX0_keepCheapest_44 : decode cX0_keepCheapest 44 = .ok (.iastore, 1) := by decide +kernel
theorem dX0_keepCheapest_45 : decode cX0_keepCheapest 45 = .ok (.iinc 3 1, 3) := by decide +kernel
theorem dX0_keepCheapest_48 : decode cX0_keepCheapest 48 = .ok (.goto (-36), 3) := by decide +kernel
theorem dX0_keepCheapest_51 : decode cX0_keepCheapest 51 = .ok (.iinc 2 1, 3) := by decide +kernel
theorem dX0_keepCheapest_54 : decode cX0_keepCheapest 54 = .ok (.goto (-52), 3) := by decide +kernel
theorem dX0_keepCheapest_57 : decode cX0_keepCheapest 57 = .ok (.return_, 1) := by decide +kernel
theorem dX0_cheapestNext_0 : decode cX0_cheapestNext 0 = .ok (.iload_n 2, 1) := by decide +kernel
theorem dX0_cheapestNext_1 : decode cX0_cheapestNext 1 = .ok (.iload_n 3, 1) := by decide +kernel
theorem dX0_cheapestNext_2 : decode cX0_cheapestNext 2 = .ok (.invokestatic 101, 3) := by decide +kernel
theorem dX0_cheapestNext_5 : decode cX0_cheapestNext 5 = .ok (.istore 4, 2) := by decide +kernel
theorem dX0_cheapestNext_7 : decode cX0_cheapestNext 7 = .ok (.iconst 0, 1) := by decide +kernel
theorem dX0_cheapestNext_8 : decode cX0_cheapestNext 8 = .ok (.istore 5, 2) := by decide +kernel
theorem dX0_cheapestNext_10 : decode cX0_cheapestNext 10 = .ok (.iconst 0, 1) := by decide +kernel
theorem dX0_cheapestNext_11 : decode cX0_cheapestNext 11 = .ok (.istore 6, 2) := by decide +kernel
theorem dX0_cheapestNext_13 : decode cX0_cheapestNext 13 = .ok (.iload 6, 2) := by decide +kernel
theorem dX0_cheapestNext_15 : decode cX0_cheapestNext 15 = .ok (.aload_n 0, 1) := by decide +kernel
theorem dX0_cheapestNext_16 : decode cX0_cheapestNext 16 = .ok (.getfield 57, 3) := by decide +kernel
theorem dX0_cheapestNext_19 : decode cX0_cheapestNext 19 = .ok (.if_icmp .ge 75, 3) := by decide +kernel
theorem dX0_cheapestNext_22 : decode cX0_cheapestNext 22 = .ok (.aload_n 0, 1) := by decide +kernel
theorem dX0_cheapestNext_23 : decode cX0_cheapestNext 23 = .ok (.getfield 21, 3) := by decide +kernel
theorem dX0_cheapestNext_26 : decode cX0_cheapestNext 26 = .ok (.iload 4, 2) := by decide +kernel
theorem dX0_cheapestNext_28 : decode cX0_cheapestNext 28 = .ok (.iaload, 1) := by decide +kernel
theorem dX0_cheapestNext_29 : decode cX0_cheapestNext 29 = .ok (.ldc 112, 2) := by decide +kernel
theorem dX0_cheapestNext_31 : decode cX0_cheapestNext 31 = .ok (.if_icmp .ge 63, 3) := by decide +kernel
theorem dX0_cheapestNext_34 : decode cX0_cheapestNext 34 = .ok (.aload_n 0, 1) := by decide +kernel
theorem dX0_cheapestNext_35 : decode cX0_cheapestNext 35 = .ok (.getfield 9, 3) := by decide +kernel
theorem dX0_cheapestNext_38 : decode cX0_cheapestNext 38 = .ok (.iload 4, 2) := by decide +kernel
theorem dX0_cheapestNext_40 : decode cX0_cheapestNext 40 = .ok (.iaload, 1) := by decide +kernel
theorem dX0_cheapestNext_41 : decode cX0_cheapestNext 41 = .ok (.iload 6, 2) := by decide +kernel
theorem dX0_cheapestNext_43 : decode cX0_cheapestNext 43 = .ok (.invokestatic 47, 3) := by decide +kernel
theorem dX0_cheapestNext_46 : decode cX0_cheapestNext 46 = .ok (.ifCond .eq 42, 3) := by decide +kernel
theorem dX0_cheapestNext_49 : decode cX0_cheapestNext 49 = .ok (.aload_n 0, 1) := by decide +kernel
theorem dX0_cheapestNext_50 : decode cX0_cheapestNext 50 = .ok (.getfield 21, 3) := by decide +kernel
theorem dX0_cheapestNext_53 : decode cX0_cheapestNext 53 = .ok (.iload_n 2, 1) := by decide +kernel
theorem dX0_cheapestNext_54 : decode cX0_cheapestNext 54 = .ok (.iload 6, 2) := by decide +kernel
theorem dX0_cheapestNext_56 : decode cX0_cheapestNext 56 = .ok (.invokestatic 113, 3) := by decide +kernel
theorem dX0_cheapestNext_59 : decode cX0_cheapestNext 59 = .ok (.iaload, 1) := by decide +kernel
theorem dX0_cheapestNext_60 : decode cX0_cheapestNext 60 = .ok (.aload_n 1, 1) := by decide +kernel
theorem dX0_cheapestNext_61 : decode cX0_cheapestNext 61 = .ok (.iload_n 2, 1) := by decide +kernel
theorem dX0_cheapestNext_62 : decode cX0_cheapestNext 62 = .ok (.iload_n 3, 1) := by decide +kernel
theorem dX0_cheapestNext_63 : decode cX0_cheapestNext 63 = .ok (.iload 6, 2) := by decide +kernel
theorem dX0_cheapestNext_65 : decode cX0_cheapestNext 65 = .ok (.invokevirtual 116, 3) := by decide +kernel
theorem dX0_cheapestNext_68 : decode cX0_cheapestNext 68 = .ok (.iadd, 1) := by decide +kernel
theorem dX0_cheapestNext_69 : decode cX0_cheapestNext 69 = .ok (.aload_n 0, 1) := by decide +kernel
theorem dX0_cheapestNext_70 : decode cX0_cheapestNext 70 = .ok (.getfield 21, 3) := by decide +kernel
theorem dX0_cheapestNext_73 : decode cX0_cheapestNext 73 = .ok (.iload 4, 2) := by decide +kernel
theorem dX0_cheapestNext_75 : decode cX0_cheapestNext 75 = .ok (.iaload, 1) := by decide +kernel
theorem dX0_cheapestNext_76 : decode cX0_cheapestNext 76 = .ok (.if_icmp .ne 12, 3) := by decide +kernel
theorem dX0_cheapestNext_79 : decode cX0_cheapestNext 79 = .ok (.iload 5, 2) := by decide +kernel
theorem dX0_cheapestNext_81 : decode cX0_cheapestNext 81 = .ok (.iconst 1, 1) := by decide +kernel
theorem dX0_cheapestNext_82 : decode cX0_cheapestNext 82 = .ok (.iload 6, 2) := by decide +kernel
theorem dX0_cheapestNext_84 : decode cX0_cheapestNext 84 = .ok (.ishl, 1) := by decide +kernel
theorem dX0_cheapestNext_85 : decode cX0_cheapestNext 85 = .ok (.ior, 1) := by decide +kernel
theorem dX0_cheapestNext_86 : decode cX0_cheapestNext 86 = .ok (.istore 5, 2) := by decide +kernel
theorem dX0_cheapestNext_88 : decode cX0_cheapestNext 88 = .ok (.iinc 6 1, 3) := by decide +kernel
theorem dX0_cheapestNext_91 : decode cX0_cheapestNext 91 = .ok (.goto (-78), 3) := by decide +kernel
theorem dX0_cheapestNext_94 : decode cX0_cheapestNext 94 = .ok (.iload 5, 2) := by decide +kernel
theorem dX0_cheapestNext_96 : decode cX0_cheapestNext 96 = .ok (.ireturn, 1) := by decide +kernel
theorem dX0_countWaysOn_0 : decode cX0_countWaysOn 0 = .ok (.aload_n 0, 1) := by decide +kernel
theorem dX0_countWaysOn_1 : decode cX0_countWaysOn 1 = .ok (.getfield 58, 3) := by decide +kernel
theorem dX0_countWaysOn_4 : decode cX0_countWaysOn 4 = .ok (.istore_n 1, 1) := by decide +kernel
theorem dX0_countWaysOn_5 : decode cX0_countWaysOn 5 = .ok (.iload_n 1, 1) := by decide +kernel
theorem dX0_countWaysOn_6 : decode cX0_countWaysOn 6 = .ok (.ifCond .lt 72, 3) := by decide +kernel
theorem dX0_countWaysOn_9 : decode cX0_countWaysOn 9 = .ok (.iconst 0, 1) := by decide +kernel
theorem dX0_countWaysOn_10 : decode cX0_countWaysOn 10 = .ok (.istore_n 2, 1) := by decide +kernel
theorem dX0_countWaysOn_11 : decode cX0_countWaysOn 11 = .ok (.iload_n 2, 1) := by decide +kernel
theorem dX0_countWaysOn_12 : decode cX0_countWaysOn 12 = .ok (.aload_n 0, 1) := by decide +kernel
theorem dX0_countWaysOn_13 : decode cX0_countWaysOn 13 = .ok (.getfield 57, 3) := by decide +kernel
theorem dX0_countWaysOn_16 : decode cX0_countWaysOn 16 = .ok (.if_icmp .ge 56, 3) := by decide +kernel
theorem dX0_countWaysOn_19 : decode cX0_countWaysOn 19 = .ok (.iload_n 1, 1) := by decide +kernel
theorem dX0_countWaysOn_20 : decode cX0_countWaysOn 20 = .ok (.iload_n 2, 1) := by decide +kernel
theorem dX0_countWaysOn_21 : decode cX0_countWaysOn 21 = .ok (.invokestatic 105, 3) := by decide +kernel
theorem dX0_countWaysOn_24 : decode cX0_countWaysOn 24 = .ok (.ifCond .eq 42, 3) := by decide +kernel
theorem dX0_countWaysOn_27 : decode cX0_countWaysOn 27 = .ok (.iload_n 1, 1) := by decide +kernel
theorem dX0_countWaysOn_28 : decode cX0_countWaysOn 28 = .ok (.iload_n 2, 1) := by decide +kernel
theorem dX0_countWaysOn_29 : decode cX0_countWaysOn 29 = .ok (.invokestatic 101, 3) := by decide +kernel
theorem dX0_countWaysOn_32 : decode cX0_countWaysOn 32 = .ok (.istore_n 3, 1) := by decide +kernel
theorem dX0_countWaysOn_33 : decode cX0_countWaysOn 33 = .ok (.aload_n 0, 1) := by decide +kernel
theorem dX0_countWaysOn_34 : decode cX0_countWaysOn 34 = .ok (.getfield 15, 3) := by decide +kernel
theorem dX0_countWaysOn_37 : decode cX0_countWaysOn 37 = .ok (.iload_n 3, 1) := by decide +kernel
theorem dX0_countWaysOn_38 : decode cX0_countWaysOn 38 = .ok (.iload_n 1, 1) := by decide +kernel
theorem dX0_countWaysOn_39 : decode cX0_countWaysOn 39 = .ok (.aload_n 0, 1) := by decide +kernel
theorem dX0_countWaysOn_40 : decode cX0_countWaysOn 40 = .ok (.getfield 58, 3) := by decide +kernel
theorem dX0_countWaysOn_43 : decode cX0_countWaysOn 43 = .ok (.if_icmp .ne 7, 3) := by decide +kernel
theorem dX0_countWaysOn_46 : decode cX0_countWaysOn 46 = .ok (.iconst 1, 1) := by decide +kernel
theorem dX0_countWaysOn_47 : decode cX0_countWaysOn 47 = .ok (.goto 18, 3) := by decide +kernel
theorem dX0_countWaysOn_50 : decode cX0_countWaysOn 50 = .ok (.aload_n 0, 1) := by decide +kernel
theorem dX0_countWaysOn_51 : decode cX0_countWaysOn 51 = .ok (.aload_n 0, 1) := by decide +kernel
theorem dX0_countWaysOn_52 : decode cX0_countWaysOn 52 = .ok (.getfield 15, 3) := by decide +kernel
theorem dX0_countWaysOn_55 : decode cX0_countWaysOn 55 = .ok (.aload_n 0, 1) := by decide +kernel
theorem dX0_countWaysOn_56 : decode cX0_countWaysOn 56 = .ok (.getfield 9, 3) := by decide +kernel
theorem dX0_countWaysOn_59 : decode cX0_countWaysOn 59 = .ok (.iload_n 3, 1) := by decide +kernel
theorem dX0_countWaysOn_60 : decode cX0_countWaysOn 60 = .ok (.iaload, 1) := by decide +kernel
theorem dX0_countWaysOn_61 : decode cX0_countWaysOn 61 = .ok (.iload_n 1, 1) := by decide +kernel
theorem dX0_countWaysOn_62 : decode cX0_countWaysOn 62 = .ok (.invokevirtual 130, 3) := by decide +kernel
theorem dX0_countWaysOn_65 : decode cX0_countWaysOn 65 = .ok (.iastore, 1) := by decide +kernel
theorem dX0_countWaysOn_66 : decode cX0_countWaysOn 66 = .ok (.iinc 2 1, 3) := by decide +kernel
theorem dX0_countWaysOn_69 : decode cX0_countWaysOn 69 = .ok (.goto (-58), 3) := by decide +kernel
theorem dX0_countWaysOn_72 : decode cX0_countWaysOn 72 = .ok (.iinc 1 (-1), 3) := by decide +kernel
theorem dX0_countWaysOn_75 : decode cX0_countWaysOn 75 = .ok (.goto (-70), 3) := by decide +kernel
theorem dX0_countWaysOn_78 : decode cX0_countWaysOn 78 = .ok (.return_, 1) := by decide +kernel
theorem dX0_sumOver_0 : decode cX0_sumOver 0 = .ok (.iconst 0, 1) := by decide +kernel
theorem dX0_sumOver_1 : decode cX0_sumOver 1 = .ok (.istore 4, 2) := by decide +kernel
theorem dX0_sumOver_3 : decode cX0_sumOver 3 = .ok (.iconst 0, 1) := by decide +kernel
theorem dX0_sumOver_4 : decode cX0_sumOver 4 = .ok (.istore 5, 2) := by decide +kernel
theorem dX0_sumOver_6 : decode cX0_sumOver 6 = .ok (.iload 5, 2) := by decide +kernel
theorem dX0_sumOver_8 : decode cX0_sumOver 8 = .ok (.aload_n 0, 1) := by decide +kernel
theorem dX0_sumOver_9 : decode cX0_sumOver 9 = .ok (.getfield 57, 3) := by decide +kernel
theorem dX0_sumOver_12 : decode cX0_sumOver 12 = .ok (.if_icmp .ge 31, 3) := by decide +kernel
theorem dX0_sumOver_15 : decode cX0_sumOver 15 = .ok (.iload_n 2, 1) := by decide +kernel
theorem dX0_sumOver_16 : decode cX0_sumOver 16 = .ok (.iload 5, 2) := by decide +kernel
theorem dX0_sumOver_18 : decode cX0_sumOver 18 = .ok (.invokestatic 47, 3) := by decide +kernel
theorem dX0_sumOver_21 : decode cX0_sumOver 21 = .ok (.ifCond .eq 16, 3) := by decide +kernel
theorem dX0_sumOver_24 : decode cX0_sumOver 24 = .ok (.iload 4, 2) := by decide +kernel
theorem dX0_sumOver_26 : decode cX0_sumOver 26 = .ok (.aload_n 1, 1) := by decide +kernel
theorem dX0_sumOver_27 : decode cX0_sumOver 27 = .ok (.iload_n 3, 1) := by decide +kernel
theorem dX0_sumOver_28 : decode cX0_sumOver 28 = .ok (.iload 5, 2) := by decide +kernel
theorem dX0_sumOver_30 : decode cX0_sumOver 30 = .ok (.invokestatic 113, 3) := by decide +kernel
theorem dX0_sumOver_33 : decode cX0_sumOver 33 = .ok (.iaload, 1) := by decide +kernel
theorem dX0_sumOver_34 : decode cX0_sumOver 34 = .ok (.iadd, 1) := by decide +kernel
theorem dX0_sumOver_35 : decode cX0_sumOver 35 = .ok (.istore 4, 2) := by decide +kernel
theorem dX0_sumOver_37 : decode cX0_sumOver 37 = .ok (.iinc 5 1, 3) := by decide +kernel
theorem dX0_sumOver_40 : decode cX0_sumOver 40 = .ok (.goto (-34), 3) := by decide +kernel
theorem dX0_sumOver_43 : decode cX0_sumOver 43 = .ok (.iload 4, 2) := by decide +kernel
theorem dX0_sumOver_45 : decode cX0_sumOver 45 = .ok (.ireturn, 1) := by decide +kernel
theorem dX0_countWaysTo_0 : decode cX0_countWaysTo 0 = .ok (.iconst 0, 1) := by decide +kernel
theorem dX0_countWaysTo_1 : decode cX0_countWaysTo 1 = .ok (.istore_n 1, 1) := by decide +kernel
theorem dX0_countWaysTo_2 : decode cX0_countWaysTo 2 = .ok (.iload_n 1, 1) := by decide +kernel
theorem dX0_countWaysTo_3 : decode cX0_countWaysTo 3 = .ok (.aload_n 0, 1) := by decide +kernel
theorem dX0_countWaysTo_4 : decode cX0_countWaysTo 4 = .ok (.getfield 58, 3) := by decide +kernel
theorem dX0_countWaysTo_7 : decode cX0_countWaysTo 7 = .ok (.iconst 1, 1) := by decide +kernel
theorem dX0_countWaysTo_8 : decode cX0_countWaysTo 8 = .ok (.iadd, 1) := by decide +kernel
theorem dX0_countWaysTo_9 : decode cX0_countWaysTo 9 = .ok (.bipush 8, 2) := by decide +kernel
theorem dX0_countWaysTo_11 : decode cX0_countWaysTo 11 = .ok (.imul, 1) := by decide +kernel
theorem dX0_countWaysTo_12 : decode cX0_countWaysTo 12 = .ok (.if_icmp .ge 16, 3) := by decide +kernel
theorem dX0_countWaysTo_15 : decode cX0_countWaysTo 15 = .ok (.aload_n 0, 1) := by decide +kernel
theorem dX0_countWaysTo_16 : decode cX0_countWaysTo 16 = .ok (.getfield 18, 3) := by decide +kernel
theorem dX0_countWaysTo_19 : decode cX0_countWaysTo 19 = .ok (.iload_n 1, 1) := by decide +kernel
theorem dX0_countWaysTo_20 : decode cX0_countWaysTo 20 = .ok (.iconst 0, 1) := by decide +kernel
theorem dX0_countWaysTo_21 : decode cX0_countWaysTo 21 = .ok (.iastore, 1) := by decide +kernel
theorem dX0_countWaysTo_22 : decode cX0_countWaysTo 22 = .ok (.iinc 1 1, 3) := by decide +kernel
theorem dX0_countWaysTo_25 : decode cX0_countWaysTo 25 = .ok (.goto (-23), 3) := by decide +kernel
theorem dX0_countWaysTo_28 : decode cX0_countWaysTo 28 = .ok (.aload_n 0, 1) := by decide +kernel
theorem dX0_countWaysTo_29 : decode cX0_countWaysTo 29 = .ok (.getfield 18, 3) := by decide +kernel
theorem dX0_countWaysTo_32 : decode cX0_countWaysTo 32 = .ok (.iconst 0, 1) := by decide +kernel
theorem dX0_countWaysTo_33 : decode cX0_countWaysTo 33 = .ok (.aload_n 0, 1) := by decide +kernel
theorem dX0_countWaysTo_34 : decode cX0_countWaysTo 34 = .ok (.invokevirtual 134, 3) := by decide +kernel
theorem dX0_countWaysTo_37 : decode cX0_countWaysTo 37 = .ok (.ifCond .le 7, 3) := by decide +kernel
theorem dX0_countWaysTo_40 : decode cX0_countWaysTo 40 = .ok (.iconst 1, 1) := by decide +kernel
theorem dX0_countWaysTo_41 : decode cX0_countWaysTo 41 = .ok (.goto 4, 3) := by decide +kernel
theorem dX0_countWaysTo_44 : decode cX0_countWaysTo 44 = .ok (.iconst 0, 1) := by decide +kernel
theorem dX0_countWaysTo_45 : decode cX0_countWaysTo 45 = .ok (.iastore, 1) := by decide +kernel
theorem dX0_countWaysTo_46 : decode cX0_countWaysTo 46 = .ok (.iconst 0, 1) := by decide +kernel
theorem dX0_countWaysTo_47 : decode cX0_countWaysTo 47 = .ok (.istore_n 1, 1) := by decide +kernel
theorem dX0_countWaysTo_48 : decode cX0_countWaysTo 48 = .ok (.iload_n 1, 1) := by decide +kernel
theorem dX0_countWaysTo_49 : decode cX0_countWaysTo 49 = .ok (.aload_n 0, 1) := by decide +kernel
theorem dX0_countWaysTo_50 : decode cX0_countWaysTo 50 = .ok (.getfield 58, 3) := by decide +kernel
theorem dX0_countWaysTo_53 : decode cX0_countWaysTo 53 = .ok (.if_icmp .gt 46, 3) := by decide +kernel
theorem dX0_countWaysTo_56 : decode cX0_countWaysTo 56 = .ok (.aload_n 0, 1) := by decide +kernel
theorem dX0_countWaysTo_57 : decode cX0_countWaysTo 57 = .ok (.getfield 24, 3) := by decide +kernel
theorem dX0_countWaysTo_60 : decode cX0_countWaysTo 60 = .ok (.iload_n 1, 1) := by decide +kernel
theorem dX0_countWaysTo_61 : decode cX0_countWaysTo 61 = .ok (.iconst 0, 1) := by decide +kernel
theorem dX0_countWaysTo_62 : decode cX0_countWaysTo 62 = .ok (.iastore, 1) := by decide +kernel
theorem dX0_countWaysTo_63 : decode cX0_countWaysTo 63 = .ok (.iconst 0, 1) := by decide +kernel
theorem dX0_countWaysTo_64 : decode cX0_countWaysTo 64 = .ok (.istore_n 2, 1) := by decide +kernel
theorem dX0_countWaysTo_65 : decode cX0_countWaysTo 65 = .ok (.iload_n 2, 1) := by decide +kernel
theorem dX0_countWaysTo_66 : decode cX0_countWaysTo 66 = .ok (.aload_n 0, 1) := by decide +kernel
theorem dX0_countWaysTo_67 : decode cX0_countWaysTo 67 = .ok (.getfield 57, 3) := by decide +kernel
theorem dX0_countWaysTo_70 : decode cX0_countWaysTo 70 = .ok (.if_icmp .ge 23, 3) := by decide +kernel
theorem dX0_countWaysTo_73 : decode cX0_countWaysTo 73 = .ok (.iload_n 1, 1) := by decide +kernel
theorem dX0_countWaysTo_74 : decode cX0_countWaysTo 74 = .ok (.iload_n 2, 1) := by decide +kernel
theorem dX0_countWaysTo_75 : decode cX0_countWaysTo 75 = .ok (.invokestatic 105, 3) := by decide +kernel
theorem dX0_countWaysTo_78 : decode cX0_countWaysTo 78 = .ok (.ifCond .eq 9, 3) := by decide +kernel
theorem dX0_countWaysTo_81 : decode cX0_countWaysTo 81 = .ok (.aload_n 0, 1) := by decide +kernel
theorem dX0_countWaysTo_82 : decode cX0_countWaysTo 82 = .ok (.iload_n 1, 1) := by decide +kernel
theorem dX0_countWaysTo_83 : decode cX0_countWaysTo 83 = .ok (.iload_n 2, 1) := by decide +kernel
theorem dX0_countWaysTo_84 : decode cX0_countWaysTo 84 = .ok (.invokevirtual 137, 3) := by decide +kernel
theorem dX0_countWaysTo_87 : decode cX0_countWaysTo 87 = .ok (.iinc 2 1, 3) := by decide +kernel
theorem dX0_countWaysTo_90 : decode cX0_countWaysTo 90 = .ok (.goto (-25), 3) := by decide +kernel
theorem dX0_countWaysTo_93 : decode cX0_countWaysTo 93 = .ok (.iinc 1 1, 3) := by decide +kernel
theorem dX0_countWaysTo_96 : decode cX0_countWaysTo 96 = .ok (.goto (-48), 3) := by decide +kernel
theorem dX0_countWaysTo_99 : decode cX0_countWaysTo 99 = .ok (.return_, 1) := by decide +kernel
theorem dX0_passOn_0 : decode cX0_passOn 0 = .ok (.iload_n 1, 1) := by decide +kernel
theorem dX0_passOn_1 : decode cX0_passOn 1 = .ok (.iload_n 2, 1) := by decide +kernel
theorem dX0_passOn_2 : decode cX0_passOn 2 = .ok (.invokestatic 101, 3) := by decide +kernel
theorem dX0_passOn_5 : decode cX0_passOn 5 = .ok (.istore_n 3, 1) := by decide +kernel
theorem dX0_passOn_6 : decode cX0_passOn 6 = .ok (.aload_n 0, 1) := by decide +kernel
theorem dX0_passOn_7 : decode cX0_passOn 7 = .ok (.getfield 18, 3) := by decide +kernel
theorem dX0_passOn_10 : decode cX0_passOn 10 = .ok (.iload_n 3, 1) := by decide +kernel
theorem dX0_passOn_11 : decode cX0_passOn 11 = .ok (.iaload, 1) := by decide +kernel
theorem dX0_passOn_12 : decode cX0_passOn 12 = .ok (.ifCond .ne 10, 3) := by decide +kernel
theorem dX0_passOn_15 : decode cX0_passOn 15 = .ok (.aload_n 0, 1) := by decide +kernel
theorem dX0_passOn_16 : decode cX0_passOn 16 = .ok (.getfield 9, 3) := by decide +kernel
theorem dX0_passOn_19 : decode cX0_passOn 19 = .ok (.iload_n 3, 1) := by decide +kernel
theorem dX0_passOn_20 : decode cX0_passOn 20 = .ok (.iconst 0, 1) := by decide +kernel
theorem dX0_passOn_21 : decode cX0_passOn 21 = .ok (.iastore, 1) := by decide +kernel
theorem dX0_passOn_22 : decode cX0_passOn 22 = .ok (.aload_n 0, 1) := by decide +kernel
theorem dX0_passOn_23 : decode cX0_passOn 23 = .ok (.getfield 24, 3) := by decide +kernel
theorem dX0_passOn_26 : decode cX0_passOn 26 = .ok (.iload_n 1, 1) := by decide +kernel
theorem dX0_passOn_27 : decode cX0_passOn 27 = .ok (.dup2, 1) := by decide +kernel
theorem dX0_passOn_28 : decode cX0_passOn 28 = .ok (.iaload, 1) := by decide +kernel
theorem dX0_passOn_29 : decode cX0_passOn 29 = .ok (.aload_n 0, 1) := by decide +kernel
theorem dX0_passOn_30 : decode cX0_passOn 30 = .ok (.getfield 9, 3) := by decide +kernel
theorem dX0_passOn_33 : decode cX0_passOn 33 = .ok (.iload_n 3, 1) := by decide +kernel
theorem dX0_passOn_34 : decode cX0_passOn 34 = .ok (.iaload, 1) := by decide +kernel
theorem dX0_passOn_35 : decode cX0_passOn 35 = .ok (.ior, 1) := by decide +kernel
theorem dX0_passOn_36 : decode cX0_passOn 36 = .ok (.iastore, 1) := by decide +kernel
theorem dX0_passOn_37 : decode cX0_passOn 37 = .ok (.iconst 0, 1) := by decide +kernel
theorem dX0_passOn_38 : decode cX0_passOn 38 = .ok (.istore 4, 2) := by decide +kernel
theorem dX0_passOn_40 : decode cX0_passOn 40 = .ok (.iload 4, 2) := by decide +kernel
theorem dX0_passOn_42 : decode cX0_passOn 42 = .ok (.aload_n 0, 1) := by decide +kernel
theorem dX0_passOn_43 : decode cX0_passOn 43 = .ok (.getfield 57, 3) := by decide +kernel
theorem dX0_passOn_46 : decode cX0_passOn 46 = .ok (.if_icmp .ge 43, 3) := by decide +kernel
theorem dX0_passOn_49 : decode cX0_passOn 49 = .ok (.aload_n 0, 1) := by decide +kernel
theorem dX0_passOn_50 : decode cX0_passOn 50 = .ok (.getfield 9, 3) := by decide +kernel
theorem dX0_passOn_53 : decode cX0_passOn 53 = .ok (.iload_n 3, 1) := by decide +kernel
theorem dX0_passOn_54 : decode cX0_passOn 54 = .ok (.iaload, 1) := by decide +kernel
theorem dX0_passOn_55 : decode cX0_passOn 55 = .ok (.iload 4, 2) := by decide +kernel
theorem dX0_passOn_57 : decode cX0_passOn 57 = .ok (.invokestatic 47, 3) := by decide +kernel
theorem dX0_passOn_60 : decode cX0_passOn 60 = .ok (.ifCond .eq 23, 3) := by decide +kernel
theorem dX0_passOn_63 : decode cX0_passOn 63 = .ok (.aload_n 0, 1) := by decide +kernel
theorem dX0_passOn_64 : decode cX0_passOn 64 = .ok (.getfield 18, 3) := by decide +kernel
theorem dX0_passOn_67 : decode cX0_passOn 67 = .ok (.iload_n 1, 1) := by decide +kernel
theorem dX0_passOn_68 : decode cX0_passOn 68 = .ok (.iload 4, 2) := by decide +kernel
theorem dX0_passOn_70 : decode cX0_passOn 70 = .ok (.invokestatic 113, 3) := by decide +kernel
theorem dX0_passOn_73 : decode cX0_passOn 73 = .ok (.dup2, 1) := by decide +kernel
theorem dX0_passOn_74 : decode cX0_passOn 74 = .ok (.iaload, 1) := by decide +kernel
theorem dX0_passOn_75 : decode cX0_passOn 75 = .ok (.aload_n 0, 1) := by decide +kernel
theorem dX0_passOn_76 : decode cX0_passOn 76 = .ok (.getfield 18, 3) := by decide +kernel
theorem dX0_passOn_79 : decode cX0_passOn 79 = .ok (.iload_n 3, 1) := by decide +kernel
theorem dX0_passOn_80 : decode cX0_passOn 80 = .ok (.iaload, 1) := by decide +kernel
theorem dX0_passOn_81 : decode cX0_passOn 81 = .ok (.iadd, 1) := by decide +kernel
theorem dX0_passOn_82 : decode cX0_passOn 82 = .ok (.iastore, 1) := by decide +kernel
theorem dX0_passOn_83 : decode cX0_passOn 83 = .ok (.iinc 4 1, 3) := by decide +kernel
theorem dX0_passOn_86 : decode cX0_passOn 86 = .ok (.goto (-46), 3) := by decide +kernel
theorem dX0_passOn_89 : decode cX0_passOn 89 = .ok (.return_, 1) := by decide +kernel
theorem dX0_graveAt_0 : decode cX0_graveAt 0 = .ok (.iconst 0, 1) := by decide +kernel
theorem dX0_graveAt_1 : decode cX0_graveAt 1 = .ok (.istore_n 3, 1) := by decide +kernel
theorem dX0_graveAt_2 : decode cX0_graveAt 2 = .ok (.iconst 0, 1) := by decide +kernel
theorem dX0_graveAt_3 : decode cX0_graveAt 3 = .ok (.istore 4, 2) := by decide +kernel
theorem dX0_graveAt_5 : decode cX0_graveAt 5 = .ok (.iload_n 1, 1) := by decide +kernel
theorem dX0_graveAt_6 : decode cX0_graveAt 6 = .ok (.istore 5, 2) := by decide +kernel
theorem dX0_graveAt_8 : decode cX0_graveAt 8 = .ok (.iconst 0, 1) := by decide +kernel
theorem dX0_graveAt_9 : decode cX0_graveAt 9 = .ok (.istore 6, 2) := by decide +kernel
theorem dX0_graveAt_11 : decode cX0_graveAt 11 = .ok (.iload 6, 2) := by decide +kernel
theorem dX0_graveAt_13 : decode cX0_graveAt 13 = .ok (.iload_n 2, 1) := by decide +kernel
theorem dX0_graveAt_14 : decode cX0_graveAt 14 = .ok (.if_icmp .gt 106, 3) := by decide +kernel
theorem dX0_graveAt_17 : decode cX0_graveAt 17 = .ok (.aload_n 0, 1) := by decide +kernel
theorem dX0_graveAt_18 : decode cX0_graveAt 18 = .ok (.getfield 9, 3) := by decide +kernel
theorem dX0_graveAt_21 : decode cX0_graveAt 21 = .ok (.iload_n 3, 1) := by decide +kernel
theorem dX0_graveAt_22 : decode cX0_graveAt 22 = .ok (.iload 4, 2) := by decide +kernel
theorem dX0_graveAt_24 : decode cX0_graveAt 24 = .ok (.invokestatic 101, 3) := by decide +kernel
theorem dX0_graveAt_27 : decode cX0_graveAt 27 = .ok (.iaload, 1) := by decide +kernel
theorem dX0_graveAt_28 : decode cX0_graveAt 28 = .ok (.istore 7, 2) := by decide +kernel
theorem dX0_graveAt_30 : decode cX0_graveAt 30 = .ok (.iconst 0, 1) := by decide +kernel
theorem dX0_graveAt_31 : decode cX0_graveAt 31 = .ok (.istore 8, 2) := by decide +kernel
theorem dX0_graveAt_33 : decode cX0_graveAt 33 = .ok (.iconst 0, 1) := by decide +kernel
theorem dX0_graveAt_34 : decode cX0_graveAt 34 = .ok (.istore 9, 2) := by decide +kernel
theorem dX0_graveAt_36 : decode cX0_graveAt 36 = .ok (.iload 9, 2) := by decide +kernel
theorem dX0_graveAt_38 : decode cX0_graveAt 38 = .ok (.aload_n 0, 1) := by decide +kernel
theorem dX0_graveAt_39 : decode cX0_graveAt 39 = .ok (.getfield 57, 3) := by decide +kernel
theorem dX0_graveAt_42 : decode cX0_graveAt 42 = .ok (.if_icmp .ge 65, 3) := by decide +kernel
theorem dX0_graveAt_45 : decode cX0_graveAt 45 = .ok (.iload 8, 2) := by decide +kernel
theorem dX0_graveAt_47 : decode cX0_graveAt 47 = .ok (.ifCond .ne 60, 3) := by decide +kernel
theorem dX0_graveAt_50 : decode cX0_graveAt 50 = .ok (.iload 7, 2) := by decide +kernel
theorem dX0_graveAt_52 : decode cX0_graveAt 52 = .ok (.iload 9, 2) := by decide +kernel
theorem dX0_graveAt_54 : decode cX0_graveAt 54 = .ok (.invokestatic 47, 3) := by decide +kernel
theorem dX0_graveAt_57 : decode cX0_graveAt 57 = .ok (.ifCond .eq 17, 3) := by decide +kernel
theorem dX0_graveAt_60 : decode cX0_graveAt 60 = .ok (.aload_n 0, 1) := by decide +kernel
theorem dX0_graveAt_61 : decode cX0_graveAt 61 = .ok (.getfield 15, 3) := by decide +kernel
theorem dX0_graveAt_64 : decode cX0_graveAt 64 = .ok (.iload_n 3, 1) := by decide +kernel
theorem dX0_graveAt_65 : decode cX0_graveAt 65 = .ok (.iload 9, 2) := by decide +kernel
theorem dX0_graveAt_67 : decode cX0_graveAt 67 = .ok (.invokestatic 113, 3) := by decide +kernel
theorem dX0_graveAt_70 : decode cX0_graveAt 70 = .ok (.iaload, 1) := by decide +kernel
theorem dX0_graveAt_71 : decode cX0_graveAt 71 = .ok (.goto 4, 3) := by decide +kernel
theorem dX0_graveAt_74 : decode cX0_graveAt 74 = .ok (.iconst 0, 1) := by decide +kernel
theorem dX0_graveAt_75 : decode cX0_graveAt 75 = .ok (.istore 10, 2) := by decide +kernel
theorem dX0_graveAt_77 : decode cX0_graveAt 77 = .ok (.iload 5, 2) := by decide +kernel
theorem dX0_graveAt_79 : decode cX0_graveAt 79 = .ok (.iload 10, 2) := by decide +kernel
theorem dX0_graveAt_81 : decode cX0_graveAt 81 = .ok (.if_icmp .ge 13, 3) := by decide +kernel
theorem dX0_graveAt_84 : decode cX0_graveAt 84 = .ok (.iconst 1, 1) := by decide +kernel
theorem dX0_graveAt_85 : decode cX0_graveAt 85 = .ok (.istore 8, 2) := by decide +kernel
theorem dX0_graveAt_87 : decode cX0_graveAt 87 = .ok (.iload 9, 2) := by decide +kernel
theorem dX0_graveAt_89 : decode cX0_graveAt 89 = .ok (.istore 4, 2) := by decide +kernel
theorem dX0_graveAt_91 : decode cX0_graveAt 91 = .ok (.goto 10, 3) := by decide +kernel
theorem dX0_graveAt_94 : decode cX0_graveAt 94 = .ok (.iload 5, 2) := by decide +kernel
theorem dX0_graveAt_96 : decode cX0_graveAt 96 = .ok (.iload 10, 2) := by decide +kernel
theorem dX0_graveAt_98 : decode cX0_graveAt 98 = .ok (.isub, 1) := by decide +kernel
theorem dX0_graveAt_99 : decode cX0_graveAt 99 = .ok (.istore 5, 2) := by decide +kernel
theorem dX0_graveAt_101 : decode cX0_graveAt 101 = .ok (.iinc 9 1, 3) := by decide +kernel
theorem dX0_graveAt_104 : decode cX0_graveAt 104 = .ok (.goto (-68), 3) := by decide +kernel
theorem dX0_graveAt_107 : decode cX0_graveAt 107 = .ok (.iload_n 3, 1) := by decide +kernel
theorem dX0_graveAt_108 : decode cX0_graveAt 108 = .ok (.iconst 1, 1) := by decide +kernel
theorem dX0_graveAt_109 : decode cX0_graveAt 109 = .ok (.iload 4, 2) := by decide +kernel
theorem dX0_graveAt_111 : decode cX0_graveAt 111 = .ok (.ishl, 1) := by decide +kernel
theorem dX0_graveAt_112 : decode cX0_graveAt 112 = .ok (.ior, 1) := by decide +kernel
theorem dX0_graveAt_113 : decode cX0_graveAt 113 = .ok (.istore_n 3, 1) := by decide +kernel
theorem dX0_graveAt_114 : decode cX0_graveAt 114 = .ok (.iinc 6 1, 3) := by decide +kernel
theorem dX0_graveAt_117 : decode cX0_graveAt 117 = .ok (.goto (-106), 3) := by decide +kernel
theorem dX0_graveAt_120 : decode cX0_graveAt 120 = .ok (.iload 4, 2) := by decide +kernel
theorem dX0_graveAt_122 : decode cX0_graveAt 122 = .ok (.ireturn, 1) := by decide +kernel
theorem dX0_neighboursOf_0 : decode cX0_neighboursOf 0 = .ok (.iconst 0, 1) := by decide +kernel
theorem dX0_neighboursOf_1 : decode cX0_neighboursOf 1 = .ok (.istore_n 3, 1) := by decide +kernel
theorem dX0_neighboursOf_2 : decode cX0_neighboursOf 2 = .ok (.iconst 0, 1) := by decide +kernel
theorem dX0_neighboursOf_3 : decode cX0_neighboursOf 3 = .ok (.istore 4, 2) := by decide +kernel
theorem dX0_neighboursOf_5 : decode cX0_neighboursOf 5 = .ok (.iload 4, 2) := by decide +kernel
theorem dX0_neighboursOf_7 : decode cX0_neighboursOf 7 = .ok (.aload_n 0, 1) := by decide +kernel
theorem dX0_neighboursOf_8 : decode cX0_neighboursOf 8 = .ok (.getfield 57, 3) := by decide +kernel
theorem dX0_neighboursOf_11 : decode cX0_neighboursOf 11 = .ok (.if_icmp .ge 41, 3) := by decide +kernel
theorem dX0_neighboursOf_14 : decode cX0_neighboursOf 14 = .ok (.iload 4, 2) := by decide +kernel
theorem dX0_neighboursOf_16 : decode cX0_neighboursOf 16 = .ok (.iload_n 1, 1) := by decide +kernel
theorem dX0_neighboursOf_17 : decode cX0_neighboursOf 17 = .ok (.if_icmp .eq 29, 3) := by decide +kernel
theorem dX0_neighboursOf_20 : decode cX0_neighboursOf 20 = .ok (.aload_n 0, 1) := by decide +kernel
theorem dX0_neighboursOf_21 : decode cX0_neighboursOf 21 = .ok (.iload_n 1, 1) := by decide +kernel
theorem dX0_neighboursOf_22 : decode cX0_neighboursOf 22 = .ok (.iload 4, 2) := by decide +kernel
theorem dX0_neighboursOf_24 : decode cX0_neighboursOf 24 = .ok (.invokevirtual 141, 3) := by decide +kernel
theorem dX0_neighboursOf_27 : decode cX0_neighboursOf 27 = .ok (.aload_n 0, 1) := by decide +kernel
theorem dX0_neighboursOf_28 : decode cX0_neighboursOf 28 = .ok (.iload 4, 2) := by decide +kernel
theorem dX0_neighboursOf_30 : decode cX0_neighboursOf 30 = .ok (.iload_n 1, 1) := by decide +kernel
theorem dX0_neighboursOf_31 : decode cX0_neighboursOf 31 = .ok (.invokevirtual 141, 3) := by decide +kernel
theorem dX0_neighboursOf_34 : decode cX0_neighboursOf 34 = .ok (.iadd, 1) := by decide +kernel
theorem dX0_neighboursOf_35 : decode cX0_neighboursOf 35 = .ok (.iload_n 2, 1) := by decide +kernel
theorem dX0_neighboursOf_36 : decode cX0_neighboursOf 36 = .ok (.if_icmp .lt 10, 3) := by decide +kernel
theorem dX0_neighboursOf_39 : decode cX0_neighboursOf 39 = .ok (.iload_n 3, 1) := by decide +kernel
theorem dX0_neighboursOf_40 : decode cX0_neighboursOf 40 = .ok (.iconst 1, 1) := by decide +kernel
theorem dX0_neighboursOf_41 : decode cX0_neighboursOf 41 = .ok (.iload 4, 2) := by decide +kernel
theorem dX0_neighboursOf_43 : decode cX0_neighboursOf 43 = .ok (.ishl, 1) := by decide +kernel
theorem dX0_neighboursOf_44 : decode cX0_neighboursOf 44 = .ok (.ior, 1) := by decide +kernel
theorem dX0_neighboursOf_45 : decode cX0_neighboursOf 45 = .ok (.istore_n 3, 1) := by decide +kernel
theorem dX0_neighboursOf_46 : decode cX0_neighboursOf 46 = .ok (.iinc 4 1, 3) := by decide +kernel
theorem dX0_neighboursOf_49 : decode cX0_neighboursOf 49 = .ok (.goto (-44), 3) := by decide +kernel
theorem dX0_neighboursOf_52 : decode cX0_neighboursOf 52 = .ok (.iload_n 3, 1) := by decide +kernel
theorem dX0_neighboursOf_53 : decode cX0_neighboursOf 53 = .ok (.ireturn, 1) := by decide +kernel
theorem dX0_ordersWithNext_0 : decode cX0_ordersWithNext 0 = .ok (.iconst 0, 1) := by decide +kernel
theorem dX0_ordersWithNext_1 : decode cX0_ordersWithNext 1 = .ok (.istore_n 3, 1) := by decide +kernel
theorem dX0_ordersWithNext_2 : decode cX0_ordersWithNext 2 = .ok (.iconst 1, 1) := by decide +kernel
theorem dX0_ordersWithNext_3 : decode cX0_ordersWithNext 3 = .ok (.istore 4, 2) := by decide +kernel
theorem dX0_ordersWithNext_5 : decode cX0_ordersWithNext 5 = .ok (.iload 4, 2) := by decide +kernel
theorem dX0_ordersWithNext_7 : decode cX0_ordersWithNext 7 = .ok (.aload_n 0, 1) := by decide +kernel
theorem dX0_ordersWithNext_8 : decode cX0_ordersWithNext 8 = .ok (.getfield 58, 3) := by decide +kernel
theorem dX0_ordersWithNext_11 : decode cX0_ordersWithNext 11 = .ok (.if_icmp .gt 62, 3) := by decide +kernel
theorem dX0_ordersWithNext_14 : decode cX0_ordersWithNext 14 = .ok (.iload 4, 2) := by decide +kernel
theorem dX0_ordersWithNext_16 : decode cX0_ordersWithNext 16 = .ok (.iload_n 1, 1) := by decide +kernel
theorem dX0_ordersWithNext_17 : decode cX0_ordersWithNext 17 = .ok (.invokestatic 101, 3) := by decide +kernel
theorem dX0_ordersWithNext_20 : decode cX0_ordersWithNext 20 = .ok (.istore 5, 2) := by decide +kernel
theorem dX0_ordersWithNext_22 : decode cX0_ordersWithNext 22 = .ok (.iload 4, 2) := by decide +kernel
theorem dX0_ordersWithNext_24 : decode cX0_ordersWithNext 24 = .ok (.iload_n 1, 1) := by decide +kernel
theorem dX0_ordersWithNext_25 : decode cX0_ordersWithNext 25 = .ok (.invokestatic 47, 3) := by decide +kernel
theorem dX0_ordersWithNext_28 : decode cX0_ordersWithNext 28 = .ok (.ifCond .eq 39, 3) := by decide +kernel
theorem dX0_ordersWithNext_31 : decode cX0_ordersWithNext 31 = .ok (.aload_n 0, 1) := by decide +kernel
theorem dX0_ordersWithNext_32 : decode cX0_ordersWithNext 32 = .ok (.getfield 9, 3) := by decide +kernel
theorem dX0_ordersWithNext_35 : decode cX0_ordersWithNext 35 = .ok (.iload 5, 2) := by decide +kernel
theorem dX0_ordersWithNext_37 : decode cX0_ordersWithNext 37 = .ok (.iaload, 1) := by decide +kernel
theorem dX0_ordersWithNext_38 : decode cX0_ordersWithNext 38 = .ok (.iload_n 2, 1) := by decide +kernel
theorem dX0_ordersWithNext_39 : decode cX0_ordersWithNext 39 = .ok (.invokestatic 47, 3) := by decide +kernel
theorem dX0_ordersWithNext_42 : decode cX0_ordersWithNext 42 = .ok (.ifCond .eq 25, 3) := by decide +kernel
theorem dX0_ordersWithNext_45 : decode cX0_ordersWithNext 45 = .ok (.iload_n 3, 1) := by decide +kernel
theorem dX0_ordersWithNext_46 : decode cX0_ordersWithNext 46 = .ok (.aload_n 0, 1) := by decide +kernel
theorem dX0_ordersWithNext_47 : decode cX0_ordersWithNext 47 = .ok (.getfield 18, 3) := by decide +kernel
theorem dX0_ordersWithNext_50 : decode cX0_ordersWithNext 50 = .ok (.iload 5, 2) := by decide +kernel
theorem dX0_ordersWithNext_52 : decode cX0_ordersWithNext 52 = .ok (.iaload, 1) := by decide +kernel
theorem dX0_ordersWithNext_53 : decode cX0_ordersWithNext 53 = .ok (.aload_n 0, 1) := by decide +kernel
theorem dX0_ordersWithNext_54 : decode cX0_ordersWithNext 54 = .ok (.getfield 15, 3) := by decide +kernel
theorem dX0_ordersWithNext_57 : decode cX0_ordersWithNext 57 = .ok (.iload 4, 2) := by decide +kernel
theorem dX0_ordersWithNext_59 : decode cX0_ordersWithNext 59 = .ok (.iload_n 2, 1) := by decide +kernel
theorem dX0_ordersWithNext_60 : decode cX0_ordersWithNext 60 = .ok (.invokestatic 113, 3) := by decide +kernel
theorem dX0_ordersWithNext_63 : decode cX0_ordersWithNext 63 = .ok (.iaload, 1) := by decide +kernel
theorem dX0_ordersWithNext_64 : decode cX0_ordersWithNext 64 = .ok (.imul, 1) := by decide +kernel
theorem dX0_ordersWithNext_65 : decode cX0_ordersWithNext 65 = .ok (.iadd, 1) := by decide +kernel
theorem dX0_ordersWithNext_66 : decode cX0_ordersWithNext 66 = .ok (.istore_n 3, 1) := by decide +kernel
theorem dX0_ordersWithNext_67 : decode cX0_ordersWithNext 67 = .ok (.iinc 4 1, 3) := by decide +kernel
theorem dX0_ordersWithNext_70 : decode cX0_ordersWithNext 70 = .ok (.goto (-65), 3) := by decide +kernel
theorem dX0_ordersWithNext_73 : decode cX0_ordersWithNext 73 = .ok (.iload_n 3, 1) := by decide +kernel
theorem dX0_ordersWithNext_74 : decode cX0_ordersWithNext 74 = .ok (.ireturn, 1) := by decide +kernel
theorem dX0_leastPlaceOf_0 : decode cX0_leastPlaceOf 0 = .ok (.iconst 0, 1) := by decide +kernel
theorem dX0_leastPlaceOf_1 : decode cX0_leastPlaceOf 1 = .ok (.istore_n 2, 1) := by decide +kernel
theorem dX0_leastPlaceOf_2 : decode cX0_leastPlaceOf 2 = .ok (.iload_n 2, 1) := by decide +kernel
theorem dX0_leastPlaceOf_3 : decode cX0_leastPlaceOf 3 = .ok (.aload_n 0, 1) := by decide +kernel
theorem dX0_leastPlaceOf_4 : decode cX0_leastPlaceOf 4 = .ok (.getfield 57, 3) := by decide +kernel
theorem dX0_leastPlaceOf_7 : decode cX0_leastPlaceOf 7 = .ok (.if_icmp .ge 20, 3) := by decide +kernel
theorem dX0_leastPlaceOf_10 : decode cX0_leastPlaceOf 10 = .ok (.aload_n 0, 1) := by decide +kernel
theorem dX0_leastPlaceOf_11 : decode cX0_leastPlaceOf 11 = .ok (.iload_n 1, 1) := by decide +kernel
theorem dX0_leastPlaceOf_12 : decode cX0_leastPlaceOf 12 = .ok (.iload_n 2, 1) := by decide +kernel
theorem dX0_leastPlaceOf_13 : decode cX0_leastPlaceOf 13 = .ok (.invokevirtual 144, 3) := by decide +kernel
theorem dX0_leastPlaceOf_16 : decode cX0_leastPlaceOf 16 = .ok (.ifCond .le 5, 3) := by decide +kernel
theorem dX0_leastPlaceOf_19 : decode cX0_leastPlaceOf 19 = .ok (.iload_n 2, 1) := by decide +kernel
theorem dX0_leastPlaceOf_20 : decode cX0_leastPlaceOf 20 = .ok (.ireturn, 1) := by decide +kernel
theorem dX0_leastPlaceOf_21 : decode cX0_leastPlaceOf 21 = .ok (.iinc 2 1, 3) := by decide +kernel
theorem dX0_leastPlaceOf_24 : decode cX0_leastPlaceOf 24 = .ok (.goto (-22), 3) := by decide +kernel
theorem dX0_leastPlaceOf_27 : decode cX0_leastPlaceOf 27 = .ok (.bipush (-6), 2) := by decide +kernel
theorem dX0_leastPlaceOf_29 : decode cX0_leastPlaceOf 29 = .ok (.ireturn, 1) := by decide +kernel
theorem dX0_greatestPlaceOf_0 : decode cX0_greatestPlaceOf 0 = .ok (.aload_n 0, 1) := by decide +kernel
theorem dX0_greatestPlaceOf_1 : decode cX0_greatestPlaceOf 1 = .ok (.getfield 57, 3) := by decide +kernel
theorem dX0_greatestPlaceOf_4 : decode cX0_greatestPlaceOf 4 = .ok (.iconst 1, 1) := by decide +kernel
theorem dX0_greatestPlaceOf_5 : decode cX0_greatestPlaceOf 5 = .ok (.isub, 1) := by decide +kernel
theorem dX0_greatestPlaceOf_6 : decode cX0_greatestPlaceOf 6 = .ok (.istore_n 2, 1) := by decide +kernel
theorem dX0_greatestPlaceOf_7 : decode cX0_greatestPlaceOf 7 = .ok (.iload_n 2, 1) := by decide +kernel
theorem dX0_greatestPlaceOf_8 : decode cX0_greatestPlaceOf 8 = .ok (.ifCond .lt 20, 3) := by decide +kernel
theorem dX0_greatestPlaceOf_11 : decode cX0_greatestPlaceOf 11 = .ok (.aload_n 0, 1) := by decide +kernel
theorem dX0_greatestPlaceOf_12 : decode cX0_greatestPlaceOf 12 = .ok (.iload_n 1, 1) := by decide +kernel
theorem dX0_greatestPlaceOf_13 : decode cX0_greatestPlaceOf 13 = .ok (.iload_n 2, 1) := by decide +kernel
theorem dX0_greatestPlaceOf_14 : decode cX0_greatestPlaceOf 14 = .ok (.invokevirtual 144, 3) := by decide +kernel
theorem dX0_greatestPlaceOf_17 : decode cX0_greatestPlaceOf 17 = .ok (.ifCond .le 5, 3) := by decide +kernel
theorem dX0_greatestPlaceOf_20 : decode cX0_greatestPlaceOf 20 = .ok (.iload_n 2, 1) := by decide +kernel
theorem dX0_greatestPlaceOf_21 : decode cX0_greatestPlaceOf 21 = .ok (.ireturn, 1) := by decide +kernel
theorem dX0_greatestPlaceOf_22 : decode cX0_greatestPlaceOf 22 = .ok (.iinc 2 (-1), 3) := by decide +kernel
theorem dX0_greatestPlaceOf_25 : decode cX0_greatestPlaceOf 25 = .ok (.goto (-18), 3) := by decide +kernel
theorem dX0_greatestPlaceOf_28 : decode cX0_greatestPlaceOf 28 = .ok (.bipush (-6), 2) := by decide +kernel
theorem dX0_greatestPlaceOf_30 : decode cX0_greatestPlaceOf 30 = .ok (.ireturn, 1) := by decide +kernel
theorem dX0_ordersWithAt_0 : decode cX0_ordersWithAt 0 = .ok (.iconst 0, 1) := by decide +kernel
theorem dX0_ordersWithAt_1 : decode cX0_ordersWithAt 1 = .ok (.istore_n 3, 1) := by decide +kernel
theorem dX0_ordersWithAt_2 : decode cX0_ordersWithAt 2 = .ok (.iconst 1, 1) := by decide +kernel
theorem dX0_ordersWithAt_3 : decode cX0_ordersWithAt 3 = .ok (.istore 4, 2) := by decide +kernel
theorem dX0_ordersWithAt_5 : decode cX0_ordersWithAt 5 = .ok (.iload 4, 2) := by decide +kernel
theorem dX0_ordersWithAt_7 : decode cX0_ordersWithAt 7 = .ok (.aload_n 0, 1) := by decide +kernel
theorem dX0_ordersWithAt_8 : decode cX0_ordersWithAt 8 = .ok (.getfield 58, 3) := by decide +kernel
theorem dX0_ordersWithAt_11 : decode cX0_ordersWithAt 11 = .ok (.if_icmp .gt 39, 3) := by decide +kernel
theorem dX0_ordersWithAt_14 : decode cX0_ordersWithAt 14 = .ok (.iload 4, 2) := by decide +kernel
theorem dX0_ordersWithAt_16 : decode cX0_ordersWithAt 16 = .ok (.iload_n 1, 1) := by decide +kernel
theorem dX0_ordersWithAt_17 : decode cX0_ordersWithAt 17 = .ok (.invokestatic 47, 3) := by decide +kernel
theorem dX0_ordersWithAt_20 : decode cX0_ordersWithAt 20 = .ok (.ifCond .eq 24, 3) := by decide +kernel
theorem dX0_ordersWithAt_23 : decode cX0_ordersWithAt 23 = .ok (.iload 4, 2) := by decide +kernel
theorem dX0_ordersWithAt_25 : decode cX0_ordersWithAt 25 = .ok (.invokestatic 80, 3) := by decide +kernel
theorem dX0_ordersWithAt_28 : decode cX0_ordersWithAt 28 = .ok (.iload_n 2, 1) := by decide +kernel
theorem dX0_ordersWithAt_29 : decode cX0_ordersWithAt 29 = .ok (.iconst 1, 1) := by decide +kernel
theorem dX0_ordersWithAt_30 : decode cX0_ordersWithAt 30 = .ok (.iadd, 1) := by decide +kernel
theorem dX0_ordersWithAt_31 : decode cX0_ordersWithAt 31 = .ok (.if_icmp .ne 13, 3) := by decide +kernel
theorem dX0_ordersWithAt_34 : decode cX0_ordersWithAt 34 = .ok (.iload_n 3, 1) := by decide +kernel
theorem dX0_ordersWithAt_35 : decode cX0_ordersWithAt 35 = .ok (.aload_n 0, 1) := by decide +kernel
theorem dX0_ordersWithAt_36 : decode cX0_ordersWithAt 36 = .ok (.iload 4, 2) := by decide +kernel
theorem dX0_ordersWithAt_38 : decode cX0_ordersWithAt 38 = .ok (.iload_n 1, 1) := by decide +kernel
theorem dX0_ordersWithAt_39 : decode cX0_ordersWithAt 39 = .ok (.invokevirtual 147, 3) := by decide +kernel
theorem dX0_ordersWithAt_42 : decode cX0_ordersWithAt 42 = .ok (.iadd, 1) := by decide +kernel
theorem dX0_ordersWithAt_43 : decode cX0_ordersWithAt 43 = .ok (.istore_n 3, 1) := by decide +kernel
theorem dX0_ordersWithAt_44 : decode cX0_ordersWithAt 44 = .ok (.iinc 4 1, 3) := by decide +kernel
theorem dX0_ordersWithAt_47 : decode cX0_ordersWithAt 47 = .ok (.goto (-42), 3) := by decide +kernel
theorem dX0_ordersWithAt_50 : decode cX0_ordersWithAt 50 = .ok (.iload_n 3, 1) := by decide +kernel
theorem dX0_ordersWithAt_51 : decode cX0_ordersWithAt 51 = .ok (.ireturn, 1) := by decide +kernel
theorem dX0_ordersWithFirst_0 : decode cX0_ordersWithFirst 0 = .ok (.iconst 0, 1) := by decide +kernel
theorem dX0_ordersWithFirst_1 : decode cX0_ordersWithFirst 1 = .ok (.istore_n 3, 1) := by decide +kernel
theorem dX0_ordersWithFirst_2 : decode cX0_ordersWithFirst 2 = .ok (.iconst 1, 1) := by decide +kernel
theorem dX0_ordersWithFirst_3 : decode cX0_ordersWithFirst 3 = .ok (.istore 4, 2) := by decide +kernel
theorem dX0_ordersWithFirst_5 : decode cX0_ordersWithFirst 5 = .ok (.iload 4, 2) := by decide +kernel
theorem dX0_ordersWithFirst_7 : decode cX0_ordersWithFirst 7 = .ok (.aload_n 0, 1) := by decide +kernel
theorem dX0_ordersWithFirst_8 : decode cX0_ordersWithFirst 8 = .ok (.getfield 58, 3) := by decide +kernel
theorem dX0_ordersWithFirst_11 : decode cX0_ordersWithFirst 11 = .ok (.if_icmp .gt 37, 3) := by decide +kernel
theorem dX0_ordersWithFirst_14 : decode cX0_ordersWithFirst 14 = .ok (.iload 4, 2) := by decide +kernel
theorem dX0_ordersWithFirst_16 : decode cX0_ordersWithFirst 16 = .ok (.iload_n 1, 1) := by decide +kernel
theorem dX0_ordersWithFirst_17 : decode cX0_ordersWithFirst 17 = .ok (.invokestatic 47, 3) := by decide +kernel
theorem dX0_ordersWithFirst_20 : decode cX0_ordersWithFirst 20 = .ok (.ifCond .eq 22, 3) := by decide +kernel
theorem dX0_ordersWithFirst_23 : decode cX0_ordersWithFirst 23 = .ok (.iload 4, 2) := by decide +kernel
theorem dX0_ordersWithFirst_25 : decode cX0_ordersWithFirst 25 = .ok (.iload_n 2, 1) := by decide +kernel
theorem dX0_ordersWithFirst_26 : decode cX0_ordersWithFirst 26 = .ok (.invokestatic 47, 3) := by decide +kernel
theorem dX0_ordersWithFirst_29 : decode cX0_ordersWithFirst 29 = .ok (.ifCond .eq 13, 3) := by decide +kernel
theorem dX0_ordersWithFirst_32 : decode cX0_ordersWithFirst 32 = .ok (.iload_n 3, 1) := by decide +kernel
theorem dX0_ordersWithFirst_33 : decode cX0_ordersWithFirst 33 = .ok (.aload_n 0, 1) := by decide +kernel
theorem dX0_ordersWithFirst_34 : decode cX0_ordersWithFirst 34 = .ok (.iload 4, 2) := by decide +kernel
theorem dX0_ordersWithFirst_36 : decode cX0_ordersWithFirst 36 = .ok (.iload_n 2, 1) := by decide +kernel
theorem dX0_ordersWithFirst_37 : decode cX0_ordersWithFirst 37 = .ok (.invokevirtual 147, 3) := by decide +kernel
theorem dX0_ordersWithFirst_40 : decode cX0_ordersWithFirst 40 = .ok (.iadd, 1) := by decide +kernel
theorem dX0_ordersWithFirst_41 : decode cX0_ordersWithFirst 41 = .ok (.istore_n 3, 1) := by decide +kernel
theorem dX0_ordersWithFirst_42 : decode cX0_ordersWithFirst 42 = .ok (.iinc 4 1, 3) := by decide +kernel
theorem dX0_ordersWithFirst_45 : decode cX0_ordersWithFirst 45 = .ok (.goto (-40), 3) := by decide +kernel
theorem dX0_ordersWithFirst_48 : decode cX0_ordersWithFirst 48 = .ok (.iload_n 3, 1) := by decide +kernel
theorem dX0_ordersWithFirst_49 : decode cX0_ordersWithFirst 49 = .ok (.ireturn, 1) := by decide +kernel
theorem dX0_ordersBy_0 : decode cX0_ordersBy 0 = .ok (.iload_n 1, 1) := by decide +kernel
theorem dX0_ordersBy_1 : decode cX0_ordersBy 1 = .ok (.iload_n 2, 1) := by decide +kernel
theorem dX0_ordersBy_2 : decode cX0_ordersBy 2 = .ok (.invokestatic 101, 3) := by decide +kernel
theorem dX0_ordersBy_5 : decode cX0_ordersBy 5 = .ok (.istore_n 3, 1) := by decide +kernel
theorem dX0_ordersBy_6 : decode cX0_ordersBy 6 = .ok (.aload_n 0, 1) := by decide +kernel
theorem dX0_ordersBy_7 : decode cX0_ordersBy 7 = .ok (.getfield 18, 3) := by decide +kernel
theorem dX0_ordersBy_10 : decode cX0_ordersBy 10 = .ok (.iload_n 3, 1) := by decide +kernel
theorem dX0_ordersBy_11 : decode cX0_ordersBy 11 = .ok (.iaload, 1) := by decide +kernel
theorem dX0_ordersBy_12 : decode cX0_ordersBy 12 = .ok (.aload_n 0, 1) := by decide +kernel
theorem dX0_ordersBy_13 : decode cX0_ordersBy 13 = .ok (.getfield 15, 3) := by decide +kernel
theorem dX0_ordersBy_16 : decode cX0_ordersBy 16 = .ok (.iload_n 3, 1) := by decide +kernel
theorem dX0_ordersBy_17 : decode cX0_ordersBy 17 = .ok (.iaload, 1) := by decide +kernel
theorem dX0_ordersBy_18 : decode cX0_ordersBy 18 = .ok (.imul, 1) := by decide +kernel
theorem dX0_ordersBy_19 : decode cX0_ordersBy 19 = .ok (.ireturn, 1) := by decide +kernel
theorem dX0_ordersWithTogether_0 : decode cX0_ordersWithTogether 0 = .ok (.aload_n 0, 1) := by decide +kernel
theorem dX0_ordersWithTogether_1 : decode cX0_ordersWithTogether 1 = .ok (.getfield 58, 3) := by decide +kernel
theorem dX0_ordersWithTogether_4 : decode cX0_ordersWithTogether 4 = .ok (.istore_n 2, 1) := by decide +kernel
theorem dX0_ordersWithTogether_5 : decode cX0_ordersWithTogether 5 = .ok (.iload_n 2, 1) := by decide +kernel
theorem dX0_ordersWithTogether_6 : decode cX0_ordersWithTogether 6 = .ok (.ifCond .lt 89, 3) := by decide +kernel
theorem dX0_ordersWithTogether_9 : decode cX0_ordersWithTogether 9 = .ok (.iload_n 1, 1) := by decide +kernel
theorem dX0_ordersWithTogether_10 : decode cX0_ordersWithTogether 10 = .ok (.iload_n 2, 1) := by decide +kernel
theorem dX0_ordersWithTogether_11 : decode cX0_ordersWithTogether 11 = .ok (.invokestatic 150, 3) := by decide +kernel
theorem dX0_ordersWithTogether_14 : decode cX0_ordersWithTogether 14 = .ok (.istore_n 3, 1) := by decide +kernel
theorem dX0_ordersWithTogether_15 : decode cX0_ordersWithTogether 15 = .ok (.iconst 0, 1) := by decide +kernel
theorem dX0_ordersWithTogether_16 : decode cX0_ordersWithTogether 16 = .ok (.istore 4, 2) := by decide +kernel
theorem dX0_ordersWithTogether_18 : decode cX0_ordersWithTogether 18 = .ok (.iload 4, 2) := by decide +kernel
theorem dX0_ordersWithTogether_20 : decode cX0_ordersWithTogether 20 = .ok (.aload_n 0, 1) := by decide +kernel
theorem dX0_ordersWithTogether_21 : decode cX0_ordersWithTogether 21 = .ok (.getfield 57, 3) := by decide +kernel
theorem dX0_ordersWithTogether_24 : decode cX0_ordersWithTogether 24 = .ok (.if_icmp .ge 65, 3) := by decide +kernel
theorem dX0_ordersWithTogether_27 : decode cX0_ordersWithTogether 27 = .ok (.iload_n 2, 1) := by decide +kernel
theorem dX0_ordersWithTogether_28 : decode cX0_ordersWithTogether 28 = .ok (.iload 4, 2) := by decide +kernel
theorem dX0_ordersWithTogether_30 : decode cX0_ordersWithTogether 30 = .ok (.invokestatic 105, 3) := by decide +kernel
theorem dX0_ordersWithTogether_33 : decode cX0_ordersWithTogether 33 = .ok (.ifCond .eq 50, 3) := by decide +kernel
theorem dX0_ordersWithTogether_36 : decode cX0_ordersWithTogether 36 = .ok (.iload_n 2, 1) := by decide +kernel
theorem dX0_ordersWithTogether_37 : decode cX0_ordersWithTogether 37 = .ok (.iload 4, 2) := by decide +kernel
theorem dX0_ordersWithTogether_39 : decode cX0_ordersWithTogether 39 = .ok (.invokestatic 101, 3) := by decide +kernel
theorem dX0_ordersWithTogether_42 : decode cX0_ordersWithTogether 42 = .ok (.istore 5, 2) := by decide +kernel
theorem dX0_ordersWithTogether_44 : decode cX0_ordersWithTogether 44 = .ok (.aload_n 0, 1) := by decide +kernel
theorem dX0_ordersWithTogether_45 : decode cX0_ordersWithTogether 45 = .ok (.getfield 21, 3) := by decide +kernel
theorem dX0_ordersWithTogether_48 : decode cX0_ordersWithTogether 48 = .ok (.iload 5, 2) := by decide +kernel
theorem dX0_ordersWithTogether_50 : decode cX0_ordersWithTogether 50 = .ok (.iload_n 2, 1) := by decide +kernel
theorem dX0_ordersWithTogether_51 : decode cX0_ordersWithTogether 51 = .ok (.aload_n 0, 1) := by decide +kernel
theorem dX0_ordersWithTogether_52 : decode cX0_ordersWithTogether 52 = .ok (.getfield 58, 3) := by decide +kernel
theorem dX0_ordersWithTogether_55 : decode cX0_ordersWithTogether 55 = .ok (.if_icmp .ne 7, 3) := by decide +kernel
theorem dX0_ordersWithTogether_58 : decode cX0_ordersWithTogether 58 = .ok (.iconst 1, 1) := by decide +kernel
theorem dX0_ordersWithTogether_59 : decode cX0_ordersWithTogether 59 = .ok (.goto 23, 3) := by decide +kernel
theorem dX0_ordersWithTogether_62 : decode cX0_ordersWithTogether 62 = .ok (.aload_n 0, 1) := by decide +kernel
theorem dX0_ordersWithTogether_63 : decode cX0_ordersWithTogether 63 = .ok (.aload_n 0, 1) := by decide +kernel
theorem dX0_ordersWithTogether_64 : decode cX0_ordersWithTogether 64 = .ok (.getfield 21, 3) := by decide +kernel
theorem dX0_ordersWithTogether_67 : decode cX0_ordersWithTogether 67 = .ok (.aload_n 0, 1) := by decide +kernel
theorem dX0_ordersWithTogether_68 : decode cX0_ordersWithTogether 68 = .ok (.getfield 9, 3) := by decide +kernel
theorem dX0_ordersWithTogether_71 : decode cX0_ordersWithTogether 71 = .ok (.iload 5, 2) := by decide +kernel
theorem dX0_ordersWithTogether_73 : decode cX0_ordersWithTogether 73 = .ok (.iaload, 1) := by decide +kernel
theorem dX0_ordersWithTogether_74 : decode cX0_ordersWithTogether 74 = .ok (.iload_n 3, 1) := by decide +kernel
theorem dX0_ordersWithTogether_75 : decode cX0_ordersWithTogether 75 = .ok (.iconst (-1), 1) := by decide +kernel
theorem dX0_ordersWithTogether_76 : decode cX0_ordersWithTogether 76 = .ok (.ixor, 1) := by decide +kernel
theorem dX0_ordersWithTogether_77 : decode cX0_ordersWithTogether 77 = .ok (.iand, 1) := by decide +kernel
theorem dX0_ordersWithTogether_78 : decode cX0_ordersWithTogether 78 = .ok (.iload_n 2, 1) := by decide +kernel
theorem dX0_ordersWithTogether_79 : decode cX0_ordersWithTogether 79 = .ok (.invokevirtual 130, 3) := by decide +kernel
theorem dX0_ordersWithTogether_82 : decode cX0_ordersWithTogether 82 = .ok (.iastore, 1) := by decide +kernel
theorem dX0_ordersWithTogether_83 : decode cX0_ordersWithTogether 83 = .ok (.iinc 4 1, 3) := by decide +kernel
theorem dX0_ordersWithTogether_86 : decode cX0_ordersWithTogether 86 = .ok (.goto (-68), 3) := by decide +kernel
theorem dX0_ordersWithTogether_89 : decode cX0_ordersWithTogether 89 = .ok (.iinc 2 (-1), 3) := by decide +kernel
theorem dX0_ordersWithTogether_92 : decode cX0_ordersWithTogether 92 = .ok (.goto (-87), 3) := by decide +kernel
theorem dX0_ordersWithTogether_95 : decode cX0_ordersWithTogether 95 = .ok (.aload_n 0, 1) := by decide +kernel
theorem dX0_ordersWithTogether_96 : decode cX0_ordersWithTogether 96 = .ok (.getfield 21, 3) := by decide +kernel
theorem dX0_ordersWithTogether_99 : decode cX0_ordersWithTogether 99 = .ok (.iconst 0, 1) := by decide +kernel
theorem dX0_ordersWithTogether_100 : decode cX0_ordersWithTogether 100 = .ok (.iaload, 1) := by decide +kernel
theorem dX0_ordersWithTogether_101 : decode cX0_ordersWithTogether 101 = .ok (.ireturn, 1) := by decide +kernel
theorem dX0_nextThatPart_0 : decode cX0_nextThatPart 0 = .ok (.iload_n 1, 1) := by decide +kernel
theorem dX0_nextThatPart_1 : decode cX0_nextThatPart 1 = .ok (.iload_n 0, 1) := by decide +kernel
theorem dX0_nextThatPart_2 : decode cX0_nextThatPart 2 = .ok (.iand, 1) := by decide +kernel
theorem dX0_nextThatPart_3 : decode cX0_nextThatPart 3 = .ok (.istore_n 2, 1) := by decide +kernel
theorem dX0_nextThatPart_4 : decode cX0_nextThatPart 4 = .ok (.iload_n 2, 1) := by decide +kernel
theorem dX0_nextThatPart_5 : decode cX0_nextThatPart 5 = .ok (.ifCond .eq 8, 3) := by decide +kernel
theorem dX0_nextThatPart_8 : decode cX0_nextThatPart 8 = .ok (.iload_n 2, 1) := by decide +kernel
theorem dX0_nextThatPart_9 : decode cX0_nextThatPart 9 = .ok (.iload_n 0, 1) := by decide +kernel
theorem dX0_nextThatPart_10 : decode cX0_nextThatPart 10 = .ok (.if_icmp .ne 7, 3) := by decide +kernel
theorem dX0_nextThatPart_13 : decode cX0_nextThatPart 13 = .ok (.iconst 0, 1) := by decide +kernel
theorem dX0_nextThatPart_14 : decode cX0_nextThatPart 14 = .ok (.goto 6, 3) := by decide +kernel
theorem dX0_nextThatPart_17 : decode cX0_nextThatPart 17 = .ok (.iload_n 0, 1) := by decide +kernel
theorem dX0_nextThatPart_18 : decode cX0_nextThatPart 18 = .ok (.iconst (-1), 1) := by decide +kernel
theorem dX0_nextThatPart_19 : decode cX0_nextThatPart 19 = .ok (.ixor, 1) := by decide +kernel
theorem dX0_nextThatPart_20 : decode cX0_nextThatPart 20 = .ok (.ireturn, 1) := by decide +kernel
theorem dX0_gatherClumps_0 : decode cX0_gatherClumps 0 = .ok (.aload_n 0, 1) := by decide +kernel
theorem dX0_gatherClumps_1 : decode cX0_gatherClumps 1 = .ok (.getfield 61, 3) := by decide +kernel
theorem dX0_gatherClumps_4 : decode cX0_gatherClumps 4 = .ok (.bipush (-6), 2) := by decide +kernel
theorem dX0_gatherClumps_6 : decode cX0_gatherClumps 6 = .ok (.if_icmp .eq 4, 3) := by decide +kernel
theorem dX0_gatherClumps_9 : decode cX0_gatherClumps 9 = .ok (.return_, 1) := by decide +kernel
theorem dX0_gatherClumps_10 : decode cX0_gatherClumps 10 = .ok (.aload_n 0, 1) := by decide +kernel
theorem dX0_gatherClumps_11 : decode cX0_gatherClumps 11 = .ok (.iconst 0, 1) := by decide +kernel
theorem dX0_gatherClumps_12 : decode cX0_gatherClumps 12 = .ok (.putfield 61, 3) := by decide +kernel
theorem dX0_gatherClumps_15 : decode cX0_gatherClumps 15 = .ok (.iconst 1, 1) := by decide +kernel
theorem dX0_gatherClumps_16 : decode cX0_gatherClumps 16 = .ok (.istore_n 1, 1) := by decide +kernel
theorem dX0_gatherClumps_17 : decode cX0_gatherClumps 17 = .ok (.iload_n 1, 1) := by decide +kernel
theorem dX0_gatherClumps_18 : decode cX0_gatherClumps 18 = .ok (.aload_n 0, 1) := by decide +kernel
theorem dX0_gatherClumps_19 : decode cX0_gatherClumps 19 = .ok (.getfield 58, 3) := by decide +kernel
theorem dX0_gatherClumps_22 : decode cX0_gatherClumps 22 = .ok (.if_icmp .gt 52, 3) := by decide +kernel
theorem dX0_gatherClumps_25 : decode cX0_gatherClumps 25 = .ok (.aload_n 0, 1) := by decide +kernel
theorem dX0_gatherClumps_26 : decode cX0_gatherClumps 26 = .ok (.invokevirtual 134, 3) := by decide +kernel
theorem dX0_gatherClumps_29 : decode cX0_gatherClumps 29 = .ok (.ifCond .le 45, 3) := by decide +kernel
theorem dX0_gatherClumps_32 : decode cX0_gatherClumps 32 = .ok (.iload_n 1, 1) := by decide +kernel
theorem dX0_gatherClumps_33 : decode cX0_gatherClumps 33 = .ok (.invokestatic 80, 3) := by decide +kernel
theorem dX0_gatherClumps_36 : decode cX0_gatherClumps 36 = .ok (.iconst 1, 1) := by decide +kernel
theorem dX0_gatherClumps_37 : decode cX0_gatherClumps 37 = .ok (.if_icmp .le 31, 3) := by decide +kernel
theorem dX0_gatherClumps_40 : decode cX0_gatherClumps 40 = .ok (.aload_n 0, 1) := by decide +kernel
theorem dX0_gatherClumps_41 : decode cX0_gatherClumps 41 = .ok (.iload_n 1, 1) := by decide +kernel
theorem dX0_gatherClumps_42 : decode cX0_gatherClumps 42 = .ok (.invokevirtual 153, 3) := by decide +kernel
theorem dX0_gatherClumps_45 : decode cX0_gatherClumps 45 = .ok (.ifCond .eq 23, 3) := by decide +kernel
theorem dX0_gatherClumps_48 : decode cX0_gatherClumps 48 = .ok (.aload_n 0, 1) := by decide +kernel
theorem dX0_gatherClumps_49 : decode cX0_gatherClumps 49 = .ok (.getfield 27, 3) := by decide +kernel
theorem dX0_gatherClumps_52 : decode cX0_gatherClumps 52 = .ok (.aload_n 0, 1) := by decide +kernel
theorem dX0_gatherClumps_53 : decode cX0_gatherClumps 53 = .ok (.getfield 61, 3) := by decide +kernel
theorem dX0_gatherClumps_56 : decode cX0_gatherClumps 56 = .ok (.iload_n 1, 1) := by decide +kernel
theorem dX0_gatherClumps_57 : decode cX0_gatherClumps 57 = .ok (.iastore, 1) := by decide +kernel
theorem dX0_gatherClumps_58 : decode cX0_gatherClumps 58 = .ok (.aload_n 0, 1) := by decide +kernel
theorem dX0_gatherClumps_59 : decode cX0_gatherClumps 59 = .ok (.dup, 1) := by decide +kernel
theorem dX0_gatherClumps_60 : decode cX0_gatherClumps 60 = .ok (.getfield 61, 3) := by decide +kernel
theorem dX0_gatherClumps_63 : decode cX0_gatherClumps 63 = .ok (.iconst 1, 1) := by decide +kernel
theorem dX0_gatherClumps_64 : decode cX0_gatherClumps 64 = .ok (.iadd, 1) := by decide +kernel
theorem dX0_gatherClumps_65 : decode cX0_gatherClumps 65 = .ok (.putfield 61, 3) := by decide +kernel
theorem dX0_gatherClumps_68 : decode cX0_gatherClumps 68 = .ok (.iinc 1 1, 3) := by decide +kernel
theorem dX0_gatherClumps_71 : decode cX0_gatherClumps 71 = .ok (.goto (-54), 3) := by decide +kernel
theorem dX0_gatherClumps_74 : decode cX0_gatherClumps 74 = .ok (.return_, 1) := by decide +kernel
theorem dX0_liesTogetherInAll_0 : decode cX0_liesTogetherInAll 0 = .ok (.iconst 1, 1) := by decide +kernel
theorem dX0_liesTogetherInAll_1 : decode cX0_liesTogetherInAll 1 = .ok (.istore_n 2, 1) := by decide +kernel
theorem dX0_liesTogetherInAll_2 : decode cX0_liesTogetherInAll 2 = .ok (.iload_n 2, 1) := by decide +kernel
theorem dX0_liesTogetherInAll_3 : decode cX0_liesTogetherInAll 3 = .ok (.aload_n 0, 1) := by decide +kernel
theorem dX0_liesTogetherInAll_4 : decode cX0_liesTogetherInAll 4 = .ok (.getfield 58, 3) := by decide +kernel
theorem dX0_liesTogetherInAll_7 : decode cX0_liesTogetherInAll 7 = .ok (.if_icmp .gt 26, 3) := by decide +kernel
theorem dX0_liesTogetherInAll_10 : decode cX0_liesTogetherInAll 10 = .ok (.aload_n 0, 1) := by decide +kernel
theorem dX0_liesTogetherInAll_11 : decode cX0_liesTogetherInAll 11 = .ok (.getfield 24, 3) := by decide +kernel
theorem dX0_liesTogetherInAll_14 : decode cX0_liesTogetherInAll 14 = .ok (.iload_n 2, 1) := by decide +kernel
theorem dX0_liesTogetherInAll_15 : decode cX0_liesTogetherInAll 15 = .ok (.iaload, 1) := by decide +kernel
theorem dX0_liesTogetherInAll_16 : decode cX0_liesTogetherInAll 16 = .ok (.iload_n 1, 1) := by decide +kernel
theorem dX0_liesTogetherInAll_17 : decode cX0_liesTogetherInAll 17 = .ok (.iload_n 2, 1) := by decide +kernel
theorem dX0_liesTogetherInAll_18 : decode cX0_liesTogetherInAll 18 = .ok (.invokestatic 150, 3) := by decide +kernel
theorem dX0_liesTogetherInAll_21 : decode cX0_liesTogetherInAll 21 = .ok (.iand, 1) := by decide +kernel
theorem dX0_liesTogetherInAll_22 : decode cX0_liesTogetherInAll 22 = .ok (.ifCond .eq 5, 3) := by decide +kernel
theorem dX0_liesTogetherInAll_25 : decode cX0_liesTogetherInAll 25 = .ok (.iconst 0, 1) := by decide +kernel
theorem dX0_liesTogetherInAll_26 : decode cX0_liesTogetherInAll 26 = .ok (.ireturn, 1) := by decide +kernel
theorem dX0_liesTogetherInAll_27 : decode cX0_liesTogetherInAll 27 = .ok (.iinc 2 1, 3) := by decide +kernel
theorem dX0_liesTogetherInAll_30 : decode cX0_liesTogetherInAll 30 = .ok (.goto (-28), 3) := by decide +kernel
theorem dX0_liesTogetherInAll_33 : decode cX0_liesTogetherInAll 33 = .ok (.iconst 1, 1) := by decide +kernel
theorem dX0_liesTogetherInAll_34 : decode cX0_liesTogetherInAll 34 = .ok (.ireturn, 1) := by decide +kernel
theorem dX0_fewestBreaksOf_0 : decode cX0_fewestBreaksOf 0 = .ok (.aload_n 0, 1) := by decide +kernel
theorem dX0_fewestBreaksOf_1 : decode cX0_fewestBreaksOf 1 = .ok (.invokevirtual 134, 3) := by decide +kernel
theorem dX0_fewestBreaksOf_4 : decode cX0_fewestBreaksOf 4 = .ok (.ifCond .ne 6, 3) := by decide +kernel
theorem dX0_fewestBreaksOf_7 : decode cX0_fewestBreaksOf 7 = .ok (.bipush (-6), 2) := by decide +kernel
theorem dX0_fewestBreaksOf_9 : decode cX0_fewestBreaksOf 9 = .ok (.ireturn, 1) := by decide +kernel
theorem dX0_fewestBreaksOf_10 : decode cX0_fewestBreaksOf 10 = .ok (.aload_n 0, 1) := by decide +kernel
theorem dX0_fewestBreaksOf_11 : decode cX0_fewestBreaksOf 11 = .ok (.getfield 36, 3) := by decide +kernel
theorem dX0_fewestBreaksOf_14 : decode cX0_fewestBreaksOf 14 = .ok (.aload_n 2, 1) := by decide +kernel
theorem dX0_fewestBreaksOf_15 : decode cX0_fewestBreaksOf 15 = .ok (.iconst 1, 1) := by decide +kernel
theorem dX0_fewestBreaksOf_16 : decode cX0_fewestBreaksOf 16 = .ok (.iload_n 1, 1) := by decide +kernel
theorem dX0_fewestBreaksOf_17 : decode cX0_fewestBreaksOf 17 = .ok (.ishl, 1) := by decide +kernel
theorem dX0_fewestBreaksOf_18 : decode cX0_fewestBreaksOf 18 = .ok (.invokevirtual 68, 3) := by decide +kernel
theorem dX0_fewestBreaksOf_21 : decode cX0_fewestBreaksOf 21 = .ok (.aload_n 0, 1) := by decide +kernel
theorem dX0_fewestBreaksOf_22 : decode cX0_fewestBreaksOf 22 = .ok (.aload_n 0, 1) := by decide +kernel
theorem dX0_fewestBreaksOf_23 : decode cX0_fewestBreaksOf 23 = .ok (.getfield 36, 3) := by decide +kernel
theorem dX0_fewestBreaksOf_26 : decode cX0_fewestBreaksOf 26 = .ok (.invokevirtual 72, 3) := by decide +kernel
theorem dX0_fewestBreaksOf_29 : decode cX0_fewestBreaksOf 29 = .ok (.aload_n 0, 1) := by decide +kernel
theorem dX0_fewestBreaksOf_30 : decode cX0_fewestBreaksOf 30 = .ok (.getfield 21, 3) := by decide +kernel
theorem dX0_fewestBreaksOf_33 : decode cX0_fewestBreaksOf 33 = .ok (.iconst 0, 1) := by decide +kernel
theorem dX0_fewestBreaksOf_34 : decode cX0_fewestBreaksOf 34 = .ok (.iaload, 1) := by decide +kernel
theorem dX0_fewestBreaksOf_35 : decode cX0_fewestBreaksOf 35 = .ok (.aload_n 2, 1) := by decide +kernel
theorem dX0_fewestBreaksOf_36 : decode cX0_fewestBreaksOf 36 = .ok (.iload_n 1, 1) := by decide +kernel
theorem dX0_fewestBreaksOf_37 : decode cX0_fewestBreaksOf 37 = .ok (.invokevirtual 157, 3) := by decide +kernel
theorem dX0_fewestBreaksOf_40 : decode cX0_fewestBreaksOf 40 = .ok (.ifCond .le 7, 3) := by decide +kernel
theorem dX0_fewestBreaksOf_43 : decode cX0_fewestBreaksOf 43 = .ok (.iconst 1, 1) := by decide +kernel
theorem dX0_fewestBreaksOf_44 : decode cX0_fewestBreaksOf 44 = .ok (.goto 4, 3) := by decide +kernel
theorem dX0_fewestBreaksOf_47 : decode cX0_fewestBreaksOf 47 = .ok (.iconst 0, 1) := by decide +kernel
theorem dX0_fewestBreaksOf_48 : decode cX0_fewestBreaksOf 48 = .ok (.isub, 1) := by decide +kernel
theorem dX0_fewestBreaksOf_49 : decode cX0_fewestBreaksOf 49 = .ok (.ireturn, 1) := by decide +kernel
theorem dX0_seekGoal_0 : decode cX0_seekGoal 0 = .ok (.aload_n 0, 1) := by decide +kernel
theorem dX0_seekGoal_1 : decode cX0_seekGoal 1 = .ok (.getfield 43, 3) := by decide +kernel
theorem dX0_seekGoal_4 : decode cX0_seekGoal 4 = .ok (.aload_n 1, 1) := by decide +kernel
theorem dX0_seekGoal_5 : decode cX0_seekGoal 5 = .ok (.invokevirtual 160, 3) := by decide +kernel
theorem dX0_seekGoal_8 : decode cX0_seekGoal 8 = .ok (.aload_n 0, 1) := by decide +kernel
theorem dX0_seekGoal_9 : decode cX0_seekGoal 9 = .ok (.aload_n 0, 1) := by decide +kernel
theorem dX0_seekGoal_10 : decode cX0_seekGoal 10 = .ok (.getfield 43, 3) := by decide +kernel
theorem dX0_seekGoal_13 : decode cX0_seekGoal 13 = .ok (.invokevirtual 72, 3) := by decide +kernel
theorem dX0_seekGoal_16 : decode cX0_seekGoal 16 = .ok (.aload_n 0, 1) := by decide +kernel
theorem dX0_seekGoal_17 : decode cX0_seekGoal 17 = .ok (.aload_n 0, 1) := by decide +kernel
theorem dX0_seekGoal_18 : decode cX0_seekGoal 18 = .ok (.getfield 21, 3) := by decide +kernel
theorem dX0_seekGoal_21 : decode cX0_seekGoal 21 = .ok (.iconst 0, 1) := by decide +kernel
theorem dX0_seekGoal_22 : decode cX0_seekGoal 22 = .ok (.iaload, 1) := by decide +kernel
theorem dX0_seekGoal_23 : decode cX0_seekGoal 23 = .ok (.putfield 162, 3) := by decide +kernel
theorem dX0_seekGoal_26 : decode cX0_seekGoal 26 = .ok (.iconst 0, 1) := by decide +kernel
theorem dX0_seekGoal_27 : decode cX0_seekGoal 27 = .ok (.istore_n 2, 1) := by decide +kernel
theorem dX0_seekGoal_28 : decode cX0_seekGoal 28 = .ok (.iconst 0, 1) := by decide +kernel
theorem dX0_seekGoal_29 : decode cX0_seekGoal 29 = .ok (.istore_n 3, 1) := by decide +kernel
theorem dX0_seekGoal_30 : decode cX0_seekGoal 30 = .ok (.iconst 0, 1) := by decide +kernel
theorem dX0_seekGoal_31 : decode cX0_seekGoal 31 = .ok (.istore 4, 2) := by decide +kernel
theorem dX0_seekGoal_33 : decode cX0_seekGoal 33 = .ok (.iload 4, 2) := by decide +kernel
theorem dX0_seekGoal_35 : decode cX0_seekGoal 35 = .ok (.aload_n 0, 1) := by decide +kernel
theorem dX0_seekGoal_36 : decode cX0_seekGoal 36 = .ok (.getfield 57, 3) := by decide +kernel
theorem dX0_seekGoal_39 : decode cX0_seekGoal 39 = .ok (.if_icmp .ge 37, 3) := by decide +kernel
theorem dX0_seekGoal_42 : decode cX0_seekGoal 42 = .ok (.aload_n 0, 1) := by decide +kernel
theorem dX0_seekGoal_43 : decode cX0_seekGoal 43 = .ok (.aload_n 0, 1) := by decide +kernel
theorem dX0_seekGoal_44 : decode cX0_seekGoal 44 = .ok (.getfield 43, 3) := by decide +kernel
theorem dX0_seekGoal_47 : decode cX0_seekGoal 47 = .ok (.iload_n 2, 1) := by decide +kernel
theorem dX0_seekGoal_48 : decode cX0_seekGoal 48 = .ok (.iload_n 3, 1) := by decide +kernel
theorem dX0_seekGoal_49 : decode cX0_seekGoal 49 = .ok (.invokevirtual 127, 3) := by decide +kernel
theorem dX0_seekGoal_52 : decode cX0_seekGoal 52 = .ok (.invokestatic 165, 3) := by decide +kernel
theorem dX0_seekGoal_55 : decode cX0_seekGoal 55 = .ok (.istore_n 3, 1) := by decide +kernel
theorem dX0_seekGoal_56 : decode cX0_seekGoal 56 = .ok (.aload_n 0, 1) := by decide +kernel
theorem dX0_seekGoal_57 : decode cX0_seekGoal 57 = .ok (.getfield 30, 3) := by decide +kernel
theorem dX0_seekGoal_60 : decode cX0_seekGoal 60 = .ok (.iload 4, 2) := by decide +kernel
theorem dX0_seekGoal_62 : decode cX0_seekGoal 62 = .ok (.iload_n 3, 1) := by decide +kernel
theorem dX0_seekGoal_63 : decode cX0_seekGoal 63 = .ok (.iastore, 1) := by decide +kernel
theorem dX0_seekGoal_64 : decode cX0_seekGoal 64 = .ok (.iload_n 2, 1) := by decide +kernel
theorem dX0_seekGoal_65 : decode cX0_seekGoal 65 = .ok (.iconst 1, 1) := by decide +kernel
theorem dX0_seekGoal_66 : decode cX0_seekGoal 66 = .ok (.iload_n 3, 1) := by decide +kernel
theorem dX0_seekGoal_67 : decode cX0_seekGoal 67 = .ok (.ishl, 1) := by decide +kernel
theorem dX0_seekGoal_68 : decode cX0_seekGoal 68 = .ok (.ior, 1) := by decide +kernel
theorem dX0_seekGoal_69 : decode cX0_seekGoal 69 = .ok (.istore_n 2, 1) := by decide +kernel
theorem dX0_seekGoal_70 : decode cX0_seekGoal 70 = .ok (.iinc 4 1, 3) := by decide +kernel
theorem dX0_seekGoal_73 : decode cX0_seekGoal 73 = .ok (.goto (-40), 3) := by decide +kernel
theorem dX0_seekGoal_76 : decode cX0_seekGoal 76 = .ok (.return_, 1) := by decide +kernel
theorem dX0_leastMember_0 : decode cX0_leastMember 0 = .ok (.iconst 0, 1) := by decide +kernel
theorem dX0_leastMember_1 : decode cX0_leastMember 1 = .ok (.istore_n 1, 1) := by decide +kernel
theorem dX0_leastMember_2 : decode cX0_leastMember 2 = .ok (.iload_n 1, 1) := by decide +kernel
theorem dX0_leastMember_3 : decode cX0_leastMember 3 = .ok (.bipush 8, 2) := by decide +kernel
theorem dX0_leastMember_5 : decode cX0_leastMember 5 = .ok (.if_icmp .ge 19, 3) := by decide +kernel
theorem dX0_leastMember_8 : decode cX0_leastMember 8 = .ok (.iload_n 0, 1) := by decide +kernel
theorem dX0_leastMember_9 : decode cX0_leastMember 9 = .ok (.iload_n 1, 1) := by decide +kernel
theorem dX0_leastMember_10 : decode cX0_leastMember 10 = .ok (.invokestatic 47, 3) := by decide +kernel
theorem dX0_leastMember_13 : decode cX0_leastMember 13 = .ok (.ifCond .eq 5, 3) := by decide +kernel
theorem dX0_leastMember_16 : decode cX0_leastMember 16 = .ok (.iload_n 1, 1) := by decide +kernel
theorem dX0_leastMember_17 : decode cX0_leastMember 17 = .ok (.ireturn, 1) := by decide +kernel
theorem dX0_leastMember_18 : decode cX0_leastMember 18 = .ok (.iinc 1 1, 3) := by decide +kernel
theorem dX0_leastMember_21 : decode cX0_leastMember 21 = .ok (.goto (-19), 3) := by decide +kernel
theorem dX0_leastMember_24 : decode cX0_leastMember 24 = .ok (.iconst 0, 1) := by decide +kernel
theorem dX0_leastMember_25 : decode cX0_leastMember 25 = .ok (.ireturn, 1) := by decide +kernel

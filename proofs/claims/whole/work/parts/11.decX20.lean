theorem dX2_init_0 : decode cX2_init 0 = .ok (.aload_n 0, 1) := by decide +kernel
theorem dX2_init_1 : decode cX2_init 1 = .ok (.invokespecial 3, 3) := by decide +kernel
theorem dX2_init_4 : decode cX2_init 4 = .ok (.aload_n 0, 1) := by decide +kernel
theorem dX2_init_5 : decode cX2_init 5 = .ok (.iconst 4, 1) := by decide +kernel
theorem dX2_init_6 : decode cX2_init 6 = .ok (.putfield 9, 3) := by decide +kernel
theorem dX2_init_9 : decode cX2_init 9 = .ok (.aload_n 0, 1) := by decide +kernel
theorem dX2_init_10 : decode cX2_init 10 = .ok (.bipush 8, 2) := by decide +kernel
theorem dX2_init_12 : decode cX2_init 12 = .ok (.newarray .int, 2) := by decide +kernel
theorem dX2_init_14 : decode cX2_init 14 = .ok (.putfield 15, 3) := by decide +kernel
theorem dX2_init_17 : decode cX2_init 17 = .ok (.aload_n 0, 1) := by decide +kernel
theorem dX2_init_18 : decode cX2_init 18 = .ok (.bipush 8, 2) := by decide +kernel
theorem dX2_init_20 : decode cX2_init 20 = .ok (.newarray .int, 2) := by decide +kernel
theorem dX2_init_22 : decode cX2_init 22 = .ok (.putfield 19, 3) := by decide +kernel
theorem dX2_init_25 : decode cX2_init 25 = .ok (.aload_n 0, 1) := by decide +kernel
theorem dX2_init_26 : decode cX2_init 26 = .ok (.bipush 8, 2) := by decide +kernel
theorem dX2_init_28 : decode cX2_init 28 = .ok (.newarray .int, 2) := by decide +kernel
theorem dX2_init_30 : decode cX2_init 30 = .ok (.putfield 22, 3) := by decide +kernel
theorem dX2_init_33 : decode cX2_init 33 = .ok (.iconst 0, 1) := by decide +kernel
theorem dX2_init_34 : decode cX2_init 34 = .ok (.istore_n 1, 1) := by decide +kernel
theorem dX2_init_35 : decode cX2_init 35 = .ok (.iload_n 1, 1) := by decide +kernel
theorem dX2_init_36 : decode cX2_init 36 = .ok (.bipush 8, 2) := by decide +kernel
theorem dX2_init_38 : decode cX2_init 38 = .ok (.if_icmp .ge 16, 3) := by decide +kernel
theorem dX2_init_41 : decode cX2_init 41 = .ok (.aload_n 0, 1) := by decide +kernel
theorem dX2_init_42 : decode cX2_init 42 = .ok (.getfield 22, 3) := by decide +kernel
theorem dX2_init_45 : decode cX2_init 45 = .ok (.iload_n 1, 1) := by decide +kernel
theorem dX2_init_46 : decode cX2_init 46 = .ok (.iload_n 1, 1) := by decide +kernel
theorem dX2_init_47 : decode cX2_init 47 = .ok (.iastore, 1) := by decide +kernel
theorem dX2_init_48 : decode cX2_init 48 = .ok (.iinc 1 1, 3) := by decide +kernel
theorem dX2_init_51 : decode cX2_init 51 = .ok (.goto (-16), 3) := by decide +kernel
theorem dX2_init_54 : decode cX2_init 54 = .ok (.return_, 1) := by decide +kernel
theorem dX2_resize_0 : decode cX2_resize 0 = .ok (.aload_n 0, 1) := by decide +kernel
theorem dX2_resize_1 : decode cX2_resize 1 = .ok (.iload_n 1, 1) := by decide +kernel
theorem dX2_resize_2 : decode cX2_resize 2 = .ok (.putfield 9, 3) := by decide +kernel
theorem dX2_resize_5 : decode cX2_resize 5 = .ok (.iconst 0, 1) := by decide +kernel
theorem dX2_resize_6 : decode cX2_resize 6 = .ok (.istore_n 2, 1) := by decide +kernel
theorem dX2_resize_7 : decode cX2_resize 7 = .ok (.iload_n 2, 1) := by decide +kernel
theorem dX2_resize_8 : decode cX2_resize 8 = .ok (.bipush 8, 2) := by decide +kernel
theorem dX2_resize_10 : decode cX2_resize 10 = .ok (.if_icmp .ge 73, 3) := by decide +kernel
theorem dX2_resize_13 : decode cX2_resize 13 = .ok (.iload_n 2, 1) := by decide +kernel
theorem dX2_resize_14 : decode cX2_resize 14 = .ok (.iload_n 1, 1) := by decide +kernel
theorem dX2_resize_15 : decode cX2_resize 15 = .ok (.if_icmp .ge 7, 3) := by decide +kernel
theorem dX2_resize_18 : decode cX2_resize 18 = .ok (.iconst 1, 1) := by decide +kernel
theorem dX2_resize_19 : decode cX2_resize 19 = .ok (.goto 4, 3) := by decide +kernel
theorem dX2_resize_22 : decode cX2_resize 22 = .ok (.iconst 0, 1) := by decide +kernel
theorem dX2_resize_23 : decode cX2_resize 23 = .ok (.istore_n 3, 1) := by decide +kernel
theorem dX2_resize_24 : decode cX2_resize 24 = .ok (.aload_n 0, 1) := by decide +kernel
theorem dX2_resize_25 : decode cX2_resize 25 = .ok (.getfield 15, 3) := by decide +kernel
theorem dX2_resize_28 : decode cX2_resize 28 = .ok (.iload_n 2, 1) := by decide +kernel
theorem dX2_resize_29 : decode cX2_resize 29 = .ok (.iload_n 3, 1) := by decide +kernel
theorem dX2_resize_30 : decode cX2_resize 30 = .ok (.ifCond .eq 12, 3) := by decide +kernel
theorem dX2_resize_33 : decode cX2_resize 33 = .ok (.aload_n 0, 1) := by decide +kernel
theorem dX2_resize_34 : decode cX2_resize 34 = .ok (.getfield 15, 3) := by decide +kernel
theorem dX2_resize_37 : decode cX2_resize 37 = .ok (.iload_n 2, 1) := by decide +kernel
theorem dX2_resize_38 : decode cX2_resize 38 = .ok (.iaload, 1) := by decide +kernel
theorem dX2_resize_39 : decode cX2_resize 39 = .ok (.goto 4, 3) := by decide +kernel
theorem dX2_resize_42 : decode cX2_resize 42 = .ok (.iconst 0, 1) := by decide +kernel
theorem dX2_resize_43 : decode cX2_resize 43 = .ok (.iastore, 1) := by decide +kernel
theorem dX2_resize_44 : decode cX2_resize 44 = .ok (.aload_n 0, 1) := by decide +kernel
theorem dX2_resize_45 : decode cX2_resize 45 = .ok (.getfield 19, 3) := by decide +kernel
theorem dX2_resize_48 : decode cX2_resize 48 = .ok (.iload_n 2, 1) := by decide +kernel
theorem dX2_resize_49 : decode cX2_resize 49 = .ok (.iload_n 3, 1) := by decide +kernel
theorem dX2_resize_50 : decode cX2_resize 50 = .ok (.ifCond .eq 18, 3) := by decide +kernel
theorem dX2_resize_53 : decode cX2_resize 53 = .ok (.aload_n 0, 1) := by decide +kernel
theorem dX2_resize_54 : decode cX2_resize 54 = .ok (.getfield 19, 3) := by decide +kernel
theorem dX2_resize_57 : decode cX2_resize 57 = .ok (.iload_n 2, 1) := by decide +kernel
theorem dX2_resize_58 : decode cX2_resize 58 = .ok (.iaload, 1) := by decide +kernel
theorem dX2_resize_59 : decode cX2_resize 59 = .ok (.iconst 1, 1) := by decide +kernel
theorem dX2_resize_60 : decode cX2_resize 60 = .ok (.iload_n 1, 1) := by decide +kernel
theorem dX2_resize_61 : decode cX2_resize 61 = .ok (.ishl, 1) := by decide +kernel
theorem dX2_resize_62 : decode cX2_resize 62 = .ok (.iconst 1, 1) := by decide +kernel
theorem dX2_resize_63 : decode cX2_resize 63 = .ok (.isub, 1) := by decide +kernel
theorem dX2_resize_64 : decode cX2_resize 64 = .ok (.iand, 1) := by decide +kernel
theorem dX2_resize_65 : decode cX2_resize 65 = .ok (.goto 4, 3) := by decide +kernel
theorem dX2_resize_68 : decode cX2_resize 68 = .ok (.iconst 0, 1) := by decide +kernel
theorem dX2_resize_69 : decode cX2_resize 69 = .ok (.iastore, 1) := by decide +kernel
theorem dX2_resize_70 : decode cX2_resize 70 = .ok (.aload_n 0, 1) := by decide +kernel
theorem dX2_resize_71 : decode cX2_resize 71 = .ok (.getfield 22, 3) := by decide +kernel
theorem dX2_resize_74 : decode cX2_resize 74 = .ok (.iload_n 2, 1) := by decide +kernel
theorem dX2_resize_75 : decode cX2_resize 75 = .ok (.iload_n 2, 1) := by decide +kernel
theorem dX2_resize_76 : decode cX2_resize 76 = .ok (.iastore, 1) := by decide +kernel
theorem dX2_resize_77 : decode cX2_resize 77 = .ok (.iinc 2 1, 3) := by decide +kernel
theorem dX2_resize_80 : decode cX2_resize 80 = .ok (.goto (-73), 3) := by decide +kernel
theorem dX2_resize_83 : decode cX2_resize 83 = .ok (.return_, 1) := by decide +kernel
theorem dX2_become_0 : decode cX2_become 0 = .ok (.aload_n 0, 1) := by decide +kernel
theorem dX2_become_1 : decode cX2_become 1 = .ok (.aload_n 1, 1) := by decide +kernel
theorem dX2_become_2 : decode cX2_become 2 = .ok (.getfield 9, 3) := by decide +kernel
theorem dX2_become_5 : decode cX2_become 5 = .ok (.putfield 9, 3) := by decide +kernel
theorem dX2_become_8 : decode cX2_become 8 = .ok (.aload_n 1, 1) := by decide +kernel
theorem dX2_become_9 : decode cX2_become 9 = .ok (.getfield 15, 3) := by decide +kernel
theorem dX2_become_12 : decode cX2_become 12 = .ok (.iconst 0, 1) := by decide +kernel
theorem dX2_become_13 : decode cX2_become 13 = .ok (.aload_n 0, 1) := by decide +kernel
theorem dX2_become_14 : decode cX2_become 14 = .ok (.getfield 15, 3) := by decide +kernel
theorem dX2_become_17 : decode cX2_become 17 = .ok (.iconst 0, 1) := by decide +kernel
theorem dX2_become_18 : decode cX2_become 18 = .ok (.bipush 8, 2) := by decide +kernel
theorem dX2_become_20 : decode cX2_become 20 = .ok (.invokestatic 25, 3) := by decide +kernel
theorem dX2_become_23 : decode cX2_become 23 = .ok (.aload_n 1, 1) := by decide +kernel
theorem dX2_become_24 : decode cX2_become 24 = .ok (.getfield 19, 3) := by decide +kernel
theorem dX2_become_27 : decode cX2_become 27 = .ok (.iconst 0, 1) := by decide +kernel
theorem dX2_become_28 : decode cX2_become 28 = .ok (.aload_n 0, 1) := by decide +kernel
theorem dX2_become_29 : decode cX2_become 29 = .ok (.getfield 19, 3) := by decide +kernel
theorem dX2_become_32 : decode cX2_become 32 = .ok (.iconst 0, 1) := by decide +kernel
theorem dX2_become_33 : decode cX2_become 33 = .ok (.bipush 8, 2) := by decide +kernel
theorem dX2_become_35 : decode cX2_become 35 = .ok (.invokestatic 25, 3) := by decide +kernel
theorem dX2_become_38 : decode cX2_become 38 = .ok (.aload_n 1, 1) := by decide +kernel
theorem dX2_become_39 : decode cX2_become 39 = .ok (.getfield 22, 3) := by decide +kernel
theorem dX2_become_42 : decode cX2_become 42 = .ok (.iconst 0, 1) := by decide +kernel
theorem dX2_become_43 : decode cX2_become 43 = .ok (.aload_n 0, 1) := by decide +kernel
theorem dX2_become_44 : decode cX2_become 44 = .ok (.getfield 22, 3) := by decide +kernel
theorem dX2_become_47 : decode cX2_become 47 = .ok (.iconst 0, 1) := by decide +kernel
theorem dX2_become_48 : decode cX2_become 48 = .ok (.bipush 8, 2) := by decide +kernel
theorem dX2_become_50 : decode cX2_become 50 = .ok (.invokestatic 25, 3) := by decide +kernel
theorem dX2_become_53 : decode cX2_become 53 = .ok (.return_, 1) := by decide +kernel
theorem dX2_earlierThan_0 : decode cX2_earlierThan 0 = .ok (.iconst 0, 1) := by decide +kernel
theorem dX2_earlierThan_1 : decode cX2_earlierThan 1 = .ok (.istore_n 2, 1) := by decide +kernel
theorem dX2_earlierThan_2 : decode cX2_earlierThan 2 = .ok (.iconst 0, 1) := by decide +kernel
theorem dX2_earlierThan_3 : decode cX2_earlierThan 3 = .ok (.istore_n 3, 1) := by decide +kernel
theorem dX2_earlierThan_4 : decode cX2_earlierThan 4 = .ok (.iload_n 3, 1) := by decide +kernel
theorem dX2_earlierThan_5 : decode cX2_earlierThan 5 = .ok (.aload_n 0, 1) := by decide +kernel
theorem dX2_earlierThan_6 : decode cX2_earlierThan 6 = .ok (.getfield 9, 3) := by decide +kernel
theorem dX2_earlierThan_9 : decode cX2_earlierThan 9 = .ok (.if_icmp .ge 28, 3) := by decide +kernel
theorem dX2_earlierThan_12 : decode cX2_earlierThan 12 = .ok (.aload_n 0, 1) := by decide +kernel
theorem dX2_earlierThan_13 : decode cX2_earlierThan 13 = .ok (.getfield 19, 3) := by decide +kernel
theorem dX2_earlierThan_16 : decode cX2_earlierThan 16 = .ok (.iload_n 3, 1) := by decide +kernel
theorem dX2_earlierThan_17 : decode cX2_earlierThan 17 = .ok (.iaload, 1) := by decide +kernel
theorem dX2_earlierThan_18 : decode cX2_earlierThan 18 = .ok (.iload_n 1, 1) := by decide +kernel
theorem dX2_earlierThan_19 : decode cX2_earlierThan 19 = .ok (.invokestatic 31, 3) := by decide +kernel
theorem dX2_earlierThan_22 : decode cX2_earlierThan 22 = .ok (.ifCond .eq 9, 3) := by decide +kernel
theorem dX2_earlierThan_25 : decode cX2_earlierThan 25 = .ok (.iload_n 2, 1) := by decide +kernel
theorem dX2_earlierThan_26 : decode cX2_earlierThan 26 = .ok (.iconst 1, 1) := by decide +kernel
theorem dX2_earlierThan_27 : decode cX2_earlierThan 27 = .ok (.iload_n 3, 1) := by decide +kernel
theorem dX2_earlierThan_28 : decode cX2_earlierThan 28 = .ok (.ishl, 1) := by decide +kernel
theorem dX2_earlierThan_29 : decode cX2_earlierThan 29 = .ok (.ior, 1) := by decide +kernel
theorem dX2_earlierThan_30 : decode cX2_earlierThan 30 = .ok (.istore_n 2, 1) := by decide +kernel
theorem dX2_earlierThan_31 : decode cX2_earlierThan 31 = .ok (.iinc 3 1, 3) := by decide +kernel
theorem dX2_earlierThan_34 : decode cX2_earlierThan 34 = .ok (.goto (-30), 3) := by decide +kernel
theorem dX2_earlierThan_37 : decode cX2_earlierThan 37 = .ok (.iload_n 2, 1) := by decide +kernel
theorem dX2_earlierThan_38 : decode cX2_earlierThan 38 = .ok (.ireturn, 1) := by decide +kernel
theorem dX2_gravesWith_0 : decode cX2_gravesWith 0 = .ok (.iconst 0, 1) := by decide +kernel
theorem dX2_gravesWith_1 : decode cX2_gravesWith 1 = .ok (.istore_n 2, 1) := by decide +kernel
theorem dX2_gravesWith_2 : decode cX2_gravesWith 2 = .ok (.iconst 0, 1) := by decide +kernel
theorem dX2_gravesWith_3 : decode cX2_gravesWith 3 = .ok (.istore_n 3, 1) := by decide +kernel
theorem dX2_gravesWith_4 : decode cX2_gravesWith 4 = .ok (.iload_n 3, 1) := by decide +kernel
theorem dX2_gravesWith_5 : decode cX2_gravesWith 5 = .ok (.aload_n 0, 1) := by decide +kernel
theorem dX2_gravesWith_6 : decode cX2_gravesWith 6 = .ok (.getfield 9, 3) := by decide +kernel
theorem dX2_gravesWith_9 : decode cX2_gravesWith 9 = .ok (.if_icmp .ge 25, 3) := by decide +kernel
theorem dX2_gravesWith_12 : decode cX2_gravesWith 12 = .ok (.aload_n 0, 1) := by decide +kernel
theorem dX2_gravesWith_13 : decode cX2_gravesWith 13 = .ok (.getfield 15, 3) := by decide +kernel
theorem dX2_gravesWith_16 : decode cX2_gravesWith 16 = .ok (.iload_n 3, 1) := by decide +kernel
theorem dX2_gravesWith_17 : decode cX2_gravesWith 17 = .ok (.iaload, 1) := by decide +kernel
theorem dX2_gravesWith_18 : decode cX2_gravesWith 18 = .ok (.iload_n 1, 1) := by decide +kernel
theorem dX2_gravesWith_19 : decode cX2_gravesWith 19 = .ok (.invokestatic 31, 3) := by decide +kernel
theorem dX2_gravesWith_22 : decode cX2_gravesWith 22 = .ok (.ifCond .eq 6, 3) := by decide +kernel
theorem dX2_gravesWith_25 : decode cX2_gravesWith 25 = .ok (.iinc 2 1, 3) := by decide +kernel
theorem dX2_gravesWith_28 : decode cX2_gravesWith 28 = .ok (.iinc 3 1, 3) := by decide +kernel
theorem dX2_gravesWith_31 : decode cX2_gravesWith 31 = .ok (.goto (-27), 3) := by decide +kernel
theorem dX2_gravesWith_34 : decode cX2_gravesWith 34 = .ok (.iload_n 2, 1) := by decide +kernel
theorem dX2_gravesWith_35 : decode cX2_gravesWith 35 = .ok (.ireturn, 1) := by decide +kernel
theorem dX2_sortsFound_0 : decode cX2_sortsFound 0 = .ok (.iconst 0, 1) := by decide +kernel
theorem dX2_sortsFound_1 : decode cX2_sortsFound 1 = .ok (.istore_n 1, 1) := by decide +kernel
theorem dX2_sortsFound_2 : decode cX2_sortsFound 2 = .ok (.iconst 0, 1) := by decide +kernel
theorem dX2_sortsFound_3 : decode cX2_sortsFound 3 = .ok (.istore_n 2, 1) := by decide +kernel
theorem dX2_sortsFound_4 : decode cX2_sortsFound 4 = .ok (.iload_n 2, 1) := by decide +kernel
theorem dX2_sortsFound_5 : decode cX2_sortsFound 5 = .ok (.aload_n 0, 1) := by decide +kernel
theorem dX2_sortsFound_6 : decode cX2_sortsFound 6 = .ok (.getfield 9, 3) := by decide +kernel
theorem dX2_sortsFound_9 : decode cX2_sortsFound 9 = .ok (.if_icmp .ge 18, 3) := by decide +kernel
theorem dX2_sortsFound_12 : decode cX2_sortsFound 12 = .ok (.iload_n 1, 1) := by decide +kernel
theorem dX2_sortsFound_13 : decode cX2_sortsFound 13 = .ok (.aload_n 0, 1) := by decide +kernel
theorem dX2_sortsFound_14 : decode cX2_sortsFound 14 = .ok (.getfield 15, 3) := by decide +kernel
theorem dX2_sortsFound_17 : decode cX2_sortsFound 17 = .ok (.iload_n 2, 1) := by decide +kernel
theorem dX2_sortsFound_18 : decode cX2_sortsFound 18 = .ok (.iaload, 1) := by decide +kernel
theorem dX2_sortsFound_19 : decode cX2_sortsFound 19 = .ok (.ior, 1) := by decide +kernel
theorem dX2_sortsFound_20 : decode cX2_sortsFound 20 = .ok (.istore_n 1, 1) := by decide +kernel
theorem dX2_sortsFound_21 : decode cX2_sortsFound 21 = .ok (.iinc 2 1, 3) := by decide +kernel
theorem dX2_sortsFound_24 : decode cX2_sortsFound 24 = .ok (.goto (-20), 3) := by decide +kernel
theorem dX2_sortsFound_27 : decode cX2_sortsFound 27 = .ok (.iload_n 1, 1) := by decide +kernel
theorem dX2_sortsFound_28 : decode cX2_sortsFound 28 = .ok (.ireturn, 1) := by decide +kernel
theorem dX2_placeInLine_0 : decode cX2_placeInLine 0 = .ok (.iconst 0, 1) := by decide +kernel
theorem dX2_placeInLine_1 : decode cX2_placeInLine 1 = .ok (.istore_n 2, 1) := by decide +kernel
theorem dX2_placeInLine_2 : decode cX2_placeInLine 2 = .ok (.iconst 0, 1) := by decide +kernel
theorem dX2_placeInLine_3 : decode cX2_placeInLine 3 = .ok (.istore_n 3, 1) := by decide +kernel
theorem dX2_placeInLine_4 : decode cX2_placeInLine 4 = .ok (.iload_n 3, 1) := by decide +kernel
theorem dX2_placeInLine_5 : decode cX2_placeInLine 5 = .ok (.aload_n 0, 1) := by decide +kernel
theorem dX2_placeInLine_6 : decode cX2_placeInLine 6 = .ok (.getfield 9, 3) := by decide +kernel
theorem dX2_placeInLine_9 : decode cX2_placeInLine 9 = .ok (.if_icmp .ge 21, 3) := by decide +kernel
theorem dX2_placeInLine_12 : decode cX2_placeInLine 12 = .ok (.aload_n 0, 1) := by decide +kernel
theorem dX2_placeInLine_13 : decode cX2_placeInLine 13 = .ok (.getfield 22, 3) := by decide +kernel
theorem dX2_placeInLine_16 : decode cX2_placeInLine 16 = .ok (.iload_n 3, 1) := by decide +kernel
theorem dX2_placeInLine_17 : decode cX2_placeInLine 17 = .ok (.iaload, 1) := by decide +kernel
theorem dX2_placeInLine_18 : decode cX2_placeInLine 18 = .ok (.iload_n 1, 1) := by decide +kernel
theorem dX2_placeInLine_19 : decode cX2_placeInLine 19 = .ok (.if_icmp .ne 5, 3) := by decide +kernel
theorem dX2_placeInLine_22 : decode cX2_placeInLine 22 = .ok (.iload_n 3, 1) := by decide +kernel
theorem dX2_placeInLine_23 : decode cX2_placeInLine 23 = .ok (.istore_n 2, 1) := by decide +kernel
theorem dX2_placeInLine_24 : decode cX2_placeInLine 24 = .ok (.iinc 3 1, 3) := by decide +kernel
theorem dX2_placeInLine_27 : decode cX2_placeInLine 27 = .ok (.goto (-23), 3) := by decide +kernel
theorem dX2_placeInLine_30 : decode cX2_placeInLine 30 = .ok (.iload_n 2, 1) := by decide +kernel
theorem dX2_placeInLine_31 : decode cX2_placeInLine 31 = .ok (.ireturn, 1) := by decide +kernel
theorem dX2_lineBreaks_0 : decode cX2_lineBreaks 0 = .ok (.iconst 0, 1) := by decide +kernel
theorem dX2_lineBreaks_1 : decode cX2_lineBreaks 1 = .ok (.istore_n 2, 1) := by decide +kernel
theorem dX2_lineBreaks_2 : decode cX2_lineBreaks 2 = .ok (.iconst 0, 1) := by decide +kernel
theorem dX2_lineBreaks_3 : decode cX2_lineBreaks 3 = .ok (.istore_n 3, 1) := by decide +kernel
theorem dX2_lineBreaks_4 : decode cX2_lineBreaks 4 = .ok (.iconst 0, 1) := by decide +kernel
theorem dX2_lineBreaks_5 : decode cX2_lineBreaks 5 = .ok (.istore 4, 2) := by decide +kernel
theorem dX2_lineBreaks_7 : decode cX2_lineBreaks 7 = .ok (.iload 4, 2) := by decide +kernel
theorem dX2_lineBreaks_9 : decode cX2_lineBreaks 9 = .ok (.aload_n 0, 1) := by decide +kernel
theorem dX2_lineBreaks_10 : decode cX2_lineBreaks 10 = .ok (.getfield 9, 3) := by decide +kernel
theorem dX2_lineBreaks_13 : decode cX2_lineBreaks 13 = .ok (.if_icmp .ge 40, 3) := by decide +kernel
theorem dX2_lineBreaks_16 : decode cX2_lineBreaks 16 = .ok (.aload_n 0, 1) := by decide +kernel
theorem dX2_lineBreaks_17 : decode cX2_lineBreaks 17 = .ok (.getfield 15, 3) := by decide +kernel
theorem dX2_lineBreaks_20 : decode cX2_lineBreaks 20 = .ok (.aload_n 0, 1) := by decide +kernel
theorem dX2_lineBreaks_21 : decode cX2_lineBreaks 21 = .ok (.getfield 22, 3) := by decide +kernel
theorem dX2_lineBreaks_24 : decode cX2_lineBreaks 24 = .ok (.iload 4, 2) := by decide +kernel
theorem dX2_lineBreaks_26 : decode cX2_lineBreaks 26 = .ok (.iaload, 1) := by decide +kernel
theorem dX2_lineBreaks_27 : decode cX2_lineBreaks 27 = .ok (.iaload, 1) := by decide +kernel
theorem dX2_lineBreaks_28 : decode cX2_lineBreaks 28 = .ok (.iload_n 1, 1) := by decide +kernel
theorem dX2_lineBreaks_29 : decode cX2_lineBreaks 29 = .ok (.iand, 1) := by decide +kernel
theorem dX2_lineBreaks_30 : decode cX2_lineBreaks 30 = .ok (.istore 5, 2) := by decide +kernel
theorem dX2_lineBreaks_32 : decode cX2_lineBreaks 32 = .ok (.iload_n 2, 1) := by decide +kernel
theorem dX2_lineBreaks_33 : decode cX2_lineBreaks 33 = .ok (.iload 5, 2) := by decide +kernel
theorem dX2_lineBreaks_35 : decode cX2_lineBreaks 35 = .ok (.iload_n 3, 1) := by decide +kernel
theorem dX2_lineBreaks_36 : decode cX2_lineBreaks 36 = .ok (.iconst (-1), 1) := by decide +kernel
theorem dX2_lineBreaks_37 : decode cX2_lineBreaks 37 = .ok (.ixor, 1) := by decide +kernel
theorem dX2_lineBreaks_38 : decode cX2_lineBreaks 38 = .ok (.iand, 1) := by decide +kernel
theorem dX2_lineBreaks_39 : decode cX2_lineBreaks 39 = .ok (.invokestatic 35, 3) := by decide +kernel
theorem dX2_lineBreaks_42 : decode cX2_lineBreaks 42 = .ok (.iadd, 1) := by decide +kernel
theorem dX2_lineBreaks_43 : decode cX2_lineBreaks 43 = .ok (.istore_n 2, 1) := by decide +kernel
theorem dX2_lineBreaks_44 : decode cX2_lineBreaks 44 = .ok (.iload 5, 2) := by decide +kernel
theorem dX2_lineBreaks_46 : decode cX2_lineBreaks 46 = .ok (.istore_n 3, 1) := by decide +kernel
theorem dX2_lineBreaks_47 : decode cX2_lineBreaks 47 = .ok (.iinc 4 1, 3) := by decide +kernel
theorem dX2_lineBreaks_50 : decode cX2_lineBreaks 50 = .ok (.goto (-43), 3) := by decide +kernel
theorem dX2_lineBreaks_53 : decode cX2_lineBreaks 53 = .ok (.iload_n 2, 1) := by decide +kernel
theorem dX2_lineBreaks_54 : decode cX2_lineBreaks 54 = .ok (.aload_n 0, 1) := by decide +kernel
theorem dX2_lineBreaks_55 : decode cX2_lineBreaks 55 = .ok (.invokevirtual 41, 3) := by decide +kernel
theorem dX2_lineBreaks_58 : decode cX2_lineBreaks 58 = .ok (.iload_n 1, 1) := by decide +kernel
theorem dX2_lineBreaks_59 : decode cX2_lineBreaks 59 = .ok (.iand, 1) := by decide +kernel
theorem dX2_lineBreaks_60 : decode cX2_lineBreaks 60 = .ok (.invokestatic 35, 3) := by decide +kernel
theorem dX2_lineBreaks_63 : decode cX2_lineBreaks 63 = .ok (.isub, 1) := by decide +kernel
theorem dX2_lineBreaks_64 : decode cX2_lineBreaks 64 = .ok (.ireturn, 1) := by decide +kernel
theorem dX2_lineIsAllowed_0 : decode cX2_lineIsAllowed 0 = .ok (.iconst 0, 1) := by decide +kernel
theorem dX2_lineIsAllowed_1 : decode cX2_lineIsAllowed 1 = .ok (.istore_n 1, 1) := by decide +kernel
theorem dX2_lineIsAllowed_2 : decode cX2_lineIsAllowed 2 = .ok (.iconst 0, 1) := by decide +kernel
theorem dX2_lineIsAllowed_3 : decode cX2_lineIsAllowed 3 = .ok (.istore_n 2, 1) := by decide +kernel
theorem dX2_lineIsAllowed_4 : decode cX2_lineIsAllowed 4 = .ok (.iload_n 2, 1) := by decide +kernel
theorem dX2_lineIsAllowed_5 : decode cX2_lineIsAllowed 5 = .ok (.aload_n 0, 1) := by decide +kernel
theorem dX2_lineIsAllowed_6 : decode cX2_lineIsAllowed 6 = .ok (.getfield 9, 3) := by decide +kernel
theorem dX2_lineIsAllowed_9 : decode cX2_lineIsAllowed 9 = .ok (.if_icmp .ge 38, 3) := by decide +kernel
theorem dX2_lineIsAllowed_12 : decode cX2_lineIsAllowed 12 = .ok (.aload_n 0, 1) := by decide +kernel
theorem dX2_lineIsAllowed_13 : decode cX2_lineIsAllowed 13 = .ok (.getfield 19, 3) := by decide +kernel
theorem dX2_lineIsAllowed_16 : decode cX2_lineIsAllowed 16 = .ok (.aload_n 0, 1) := by decide +kernel
theorem dX2_lineIsAllowed_17 : decode cX2_lineIsAllowed 17 = .ok (.getfield 22, 3) := by decide +kernel
theorem dX2_lineIsAllowed_20 : decode cX2_lineIsAllowed 20 = .ok (.iload_n 2, 1) := by decide +kernel
theorem dX2_lineIsAllowed_21 : decode cX2_lineIsAllowed 21 = .ok (.iaload, 1) := by decide +kernel
theorem dX2_lineIsAllowed_22 : decode cX2_lineIsAllowed 22 = .ok (.iaload, 1) := by decide +kernel
theorem dX2_lineIsAllowed_23 : decode cX2_lineIsAllowed 23 = .ok (.iload_n 1, 1) := by decide +kernel
theorem dX2_lineIsAllowed_24 : decode cX2_lineIsAllowed 24 = .ok (.iand, 1) := by decide +kernel
theorem dX2_lineIsAllowed_25 : decode cX2_lineIsAllowed 25 = .ok (.ifCond .eq 5, 3) := by decide +kernel
theorem dX2_lineIsAllowed_28 : decode cX2_lineIsAllowed 28 = .ok (.iconst 0, 1) := by decide +kernel
theorem dX2_lineIsAllowed_29 : decode cX2_lineIsAllowed 29 = .ok (.ireturn, 1) := by decide +kernel
theorem dX2_lineIsAllowed_30 : decode cX2_lineIsAllowed 30 = .ok (.iload_n 1, 1) := by decide +kernel
theorem dX2_lineIsAllowed_31 : decode cX2_lineIsAllowed 31 = .ok (.iconst 1, 1) := by decide +kernel
theorem dX2_lineIsAllowed_32 : decode cX2_lineIsAllowed 32 = .ok (.aload_n 0, 1) := by decide +kernel
theorem dX2_lineIsAllowed_33 : decode cX2_lineIsAllowed 33 = .ok (.getfield 22, 3) := by decide +kernel
theorem dX2_lineIsAllowed_36 : decode cX2_lineIsAllowed 36 = .ok (.iload_n 2, 1) := by decide +kernel
theorem dX2_lineIsAllowed_37 : decode cX2_lineIsAllowed 37 = .ok (.iaload, 1) := by decide +kernel
theorem dX2_lineIsAllowed_38 : decode cX2_lineIsAllowed 38 = .ok (.ishl, 1) := by decide +kernel
theorem dX2_lineIsAllowed_39 : decode cX2_lineIsAllowed 39 = .ok (.ior, 1) := by decide +kernel
theorem dX2_lineIsAllowed_40 : decode cX2_lineIsAllowed 40 = .ok (.istore_n 1, 1) := by decide +kernel
theorem dX2_lineIsAllowed_41 : decode cX2_lineIsAllowed 41 = .ok (.iinc 2 1, 3) := by decide +kernel
theorem dX2_lineIsAllowed_44 : decode cX2_lineIsAllowed 44 = .ok (.goto (-40), 3) := by decide +kernel
theorem dX2_lineIsAllowed_47 : decode cX2_lineIsAllowed 47 = .ok (.iconst 1, 1) := by decide +kernel
theorem dX2_lineIsAllowed_48 : decode cX2_lineIsAllowed 48 = .ok (.ireturn, 1) := by decide +kernel
theorem dX2_exchange_0 : decode cX2_exchange 0 = .ok (.aload_n 0, 1) := by decide +kernel
theorem dX2_exchange_1 : decode cX2_exchange 1 = .ok (.getfield 22, 3) := by decide +kernel
theorem dX2_exchange_4 : decode cX2_exchange 4 = .ok (.iload_n 1, 1) := by decide +kernel
theorem dX2_exchange_5 : decode cX2_exchange 5 = .ok (.iaload, 1) := by decide +kernel
theorem dX2_exchange_6 : decode cX2_exchange 6 = .ok (.istore_n 2, 1) := by decide +kernel
theorem dX2_exchange_7 : decode cX2_exchange 7 = .ok (.aload_n 0, 1) := by decide +kernel
theorem dX2_exchange_8 : decode cX2_exchange 8 = .ok (.getfield 22, 3) := by decide +kernel
theorem dX2_exchange_11 : decode cX2_exchange 11 = .ok (.iload_n 1, 1) := by decide +kernel
theorem dX2_exchange_12 : decode cX2_exchange 12 = .ok (.aload_n 0, 1) := by decide +kernel
theorem dX2_exchange_13 : decode cX2_exchange 13 = .ok (.getfield 22, 3) := by decide +kernel
theorem dX2_exchange_16 : decode cX2_exchange 16 = .ok (.iload_n 1, 1) := by decide +kernel
theorem dX2_exchange_17 : decode cX2_exchange 17 = .ok (.iconst 1, 1) := by decide +kernel
theorem dX2_exchange_18 : decode cX2_exchange 18 = .ok (.iadd, 1) := by decide +kernel
theorem dX2_exchange_19 : decode cX2_exchange 19 = .ok (.iaload, 1) := by decide +kernel
theorem dX2_exchange_20 : decode cX2_exchange 20 = .ok (.iastore, 1) := by decide +kernel
theorem dX2_exchange_21 : decode cX2_exchange 21 = .ok (.aload_n 0, 1) := by decide +kernel
theorem dX2_exchange_22 : decode cX2_exchange 22 = .ok (.getfield 22, 3) := by decide +kernel
theorem dX2_exchange_25 : decode cX2_exchange 25 = .ok (.iload_n 1, 1) := by decide +kernel
theorem dX2_exchange_26 : decode cX2_exchange 26 = .ok (.iconst 1, 1) := by decide +kernel
theorem dX2_exchange_27 : decode cX2_exchange 27 = .ok (.iadd, 1) := by decide +kernel
theorem dX2_exchange_28 : decode cX2_exchange 28 = .ok (.iload_n 2, 1) := by decide +kernel
theorem dX2_exchange_29 : decode cX2_exchange 29 = .ok (.iastore, 1) := by decide +kernel
theorem dX2_exchange_30 : decode cX2_exchange 30 = .ok (.return_, 1) := by decide +kernel
theorem dX2_bestExchange_0 : decode cX2_bestExchange 0 = .ok (.aload_n 0, 1) := by decide +kernel
theorem dX2_bestExchange_1 : decode cX2_bestExchange 1 = .ok (.sipush 1023, 3) := by decide +kernel
theorem dX2_bestExchange_4 : decode cX2_bestExchange 4 = .ok (.invokevirtual 45, 3) := by decide +kernel
theorem dX2_bestExchange_7 : decode cX2_bestExchange 7 = .ok (.istore_n 1, 1) := by decide +kernel
theorem dX2_bestExchange_8 : decode cX2_bestExchange 8 = .ok (.bipush (-6), 2) := by decide +kernel
theorem dX2_bestExchange_10 : decode cX2_bestExchange 10 = .ok (.istore_n 2, 1) := by decide +kernel
theorem dX2_bestExchange_11 : decode cX2_bestExchange 11 = .ok (.iconst 0, 1) := by decide +kernel
theorem dX2_bestExchange_12 : decode cX2_bestExchange 12 = .ok (.istore_n 3, 1) := by decide +kernel
theorem dX2_bestExchange_13 : decode cX2_bestExchange 13 = .ok (.iload_n 3, 1) := by decide +kernel
theorem dX2_bestExchange_14 : decode cX2_bestExchange 14 = .ok (.aload_n 0, 1) := by decide +kernel
theorem dX2_bestExchange_15 : decode cX2_bestExchange 15 = .ok (.getfield 9, 3) := by decide +kernel
theorem dX2_bestExchange_18 : decode cX2_bestExchange 18 = .ok (.iconst 1, 1) := by decide +kernel
theorem dX2_bestExchange_19 : decode cX2_bestExchange 19 = .ok (.isub, 1) := by decide +kernel
theorem dX2_bestExchange_20 : decode cX2_bestExchange 20 = .ok (.if_icmp .ge 39, 3) := by decide +kernel
theorem dX2_bestExchange_23 : decode cX2_bestExchange 23 = .ok (.aload_n 0, 1) := by decide +kernel
theorem dX2_bestExchange_24 : decode cX2_bestExchange 24 = .ok (.iload_n 3, 1) := by decide +kernel
theorem dX2_bestExchange_25 : decode cX2_bestExchange 25 = .ok (.invokevirtual 48, 3) := by decide +kernel
theorem dX2_bestExchange_28 : decode cX2_bestExchange 28 = .ok (.aload_n 0, 1) := by decide +kernel
theorem dX2_bestExchange_29 : decode cX2_bestExchange 29 = .ok (.sipush 1023, 3) := by decide +kernel
theorem dX2_bestExchange_32 : decode cX2_bestExchange 32 = .ok (.invokevirtual 45, 3) := by decide +kernel
theorem dX2_bestExchange_35 : decode cX2_bestExchange 35 = .ok (.istore 4, 2) := by decide +kernel
theorem dX2_bestExchange_37 : decode cX2_bestExchange 37 = .ok (.aload_n 0, 1) := by decide +kernel
theorem dX2_bestExchange_38 : decode cX2_bestExchange 38 = .ok (.iload_n 3, 1) := by decide +kernel
theorem dX2_bestExchange_39 : decode cX2_bestExchange 39 = .ok (.invokevirtual 48, 3) := by decide +kernel
theorem dX2_bestExchange_42 : decode cX2_bestExchange 42 = .ok (.iload 4, 2) := by decide +kernel
theorem dX2_bestExchange_44 : decode cX2_bestExchange 44 = .ok (.iload_n 1, 1) := by decide +kernel
theorem dX2_bestExchange_45 : decode cX2_bestExchange 45 = .ok (.if_icmp .ge 8, 3) := by decide +kernel
theorem dX2_bestExchange_48 : decode cX2_bestExchange 48 = .ok (.iload 4, 2) := by decide +kernel
theorem dX2_bestExchange_50 : decode cX2_bestExchange 50 = .ok (.istore_n 1, 1) := by decide +kernel
theorem dX2_bestExchange_51 : decode cX2_bestExchange 51 = .ok (.iload_n 3, 1) := by decide +kernel
theorem dX2_bestExchange_52 : decode cX2_bestExchange 52 = .ok (.istore_n 2, 1) := by decide +kernel
theorem dX2_bestExchange_53 : decode cX2_bestExchange 53 = .ok (.iinc 3 1, 3) := by decide +kernel
theorem dX2_bestExchange_56 : decode cX2_bestExchange 56 = .ok (.goto (-43), 3) := by decide +kernel
theorem dX2_bestExchange_59 : decode cX2_bestExchange 59 = .ok (.iload_n 2, 1) := by decide +kernel
theorem dX2_bestExchange_60 : decode cX2_bestExchange 60 = .ok (.ireturn, 1) := by decide +kernel

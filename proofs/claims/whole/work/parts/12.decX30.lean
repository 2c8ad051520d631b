theorem dX3_init_0 : decode cX3_init 0 = .ok (.aload_n 0, 1) := by decide +kernel
theorem dX3_init_1 : decode cX3_init 1 = .ok (.invokespecial 3, 3) := by decide +kernel
theorem dX3_init_4 : decode cX3_init 4 = .ok (.aload_n 0, 1) := by decide +kernel
theorem dX3_init_5 : decode cX3_init 5 = .ok (.bipush 8, 2) := by decide +kernel
theorem dX3_init_7 : decode cX3_init 7 = .ok (.newarray .int, 2) := by decide +kernel
theorem dX3_init_9 : decode cX3_init 9 = .ok (.putfield 9, 3) := by decide +kernel
theorem dX3_init_12 : decode cX3_init 12 = .ok (.return_, 1) := by decide +kernel
theorem dX3_lookAt_0 : decode cX3_lookAt 0 = .ok (.iconst 0, 1) := by decide +kernel
theorem dX3_lookAt_1 : decode cX3_lookAt 1 = .ok (.istore_n 3, 1) := by decide +kernel
theorem dX3_lookAt_2 : decode cX3_lookAt 2 = .ok (.iload_n 3, 1) := by decide +kernel
theorem dX3_lookAt_3 : decode cX3_lookAt 3 = .ok (.bipush 8, 2) := by decide +kernel
theorem dX3_lookAt_5 : decode cX3_lookAt 5 = .ok (.if_icmp .ge 23, 3) := by decide +kernel
theorem dX3_lookAt_8 : decode cX3_lookAt 8 = .ok (.aload_n 0, 1) := by decide +kernel
theorem dX3_lookAt_9 : decode cX3_lookAt 9 = .ok (.getfield 9, 3) := by decide +kernel
theorem dX3_lookAt_12 : decode cX3_lookAt 12 = .ok (.iload_n 3, 1) := by decide +kernel
theorem dX3_lookAt_13 : decode cX3_lookAt 13 = .ok (.aload_n 1, 1) := by decide +kernel
theorem dX3_lookAt_14 : decode cX3_lookAt 14 = .ok (.getfield 15, 3) := by decide +kernel
theorem dX3_lookAt_17 : decode cX3_lookAt 17 = .ok (.iload_n 3, 1) := by decide +kernel
theorem dX3_lookAt_18 : decode cX3_lookAt 18 = .ok (.iaload, 1) := by decide +kernel
theorem dX3_lookAt_19 : decode cX3_lookAt 19 = .ok (.iload_n 2, 1) := by decide +kernel
theorem dX3_lookAt_20 : decode cX3_lookAt 20 = .ok (.iand, 1) := by decide +kernel
theorem dX3_lookAt_21 : decode cX3_lookAt 21 = .ok (.iastore, 1) := by decide +kernel
theorem dX3_lookAt_22 : decode cX3_lookAt 22 = .ok (.iinc 3 1, 3) := by decide +kernel
theorem dX3_lookAt_25 : decode cX3_lookAt 25 = .ok (.goto (-23), 3) := by decide +kernel
theorem dX3_lookAt_28 : decode cX3_lookAt 28 = .ok (.return_, 1) := by decide +kernel
theorem dX3_ofNext_0 : decode cX3_ofNext 0 = .ok (.iload_n 1, 1) := by decide +kernel
theorem dX3_ofNext_1 : decode cX3_ofNext 1 = .ok (.ifCond .ne 7, 3) := by decide +kernel
theorem dX3_ofNext_4 : decode cX3_ofNext 4 = .ok (.iconst 0, 1) := by decide +kernel
theorem dX3_ofNext_5 : decode cX3_ofNext 5 = .ok (.goto 9, 3) := by decide +kernel
theorem dX3_ofNext_8 : decode cX3_ofNext 8 = .ok (.aload_n 0, 1) := by decide +kernel
theorem dX3_ofNext_9 : decode cX3_ofNext 9 = .ok (.getfield 9, 3) := by decide +kernel
theorem dX3_ofNext_12 : decode cX3_ofNext 12 = .ok (.iload_n 2, 1) := by decide +kernel
theorem dX3_ofNext_13 : decode cX3_ofNext 13 = .ok (.iaload, 1) := by decide +kernel
theorem dX3_ofNext_14 : decode cX3_ofNext 14 = .ok (.istore 4, 2) := by decide +kernel
theorem dX3_ofNext_16 : decode cX3_ofNext 16 = .ok (.aload_n 0, 1) := by decide +kernel
theorem dX3_ofNext_17 : decode cX3_ofNext 17 = .ok (.getfield 9, 3) := by decide +kernel
theorem dX3_ofNext_20 : decode cX3_ofNext 20 = .ok (.iload_n 3, 1) := by decide +kernel
theorem dX3_ofNext_21 : decode cX3_ofNext 21 = .ok (.iaload, 1) := by decide +kernel
theorem dX3_ofNext_22 : decode cX3_ofNext 22 = .ok (.iload 4, 2) := by decide +kernel
theorem dX3_ofNext_24 : decode cX3_ofNext 24 = .ok (.iconst (-1), 1) := by decide +kernel
theorem dX3_ofNext_25 : decode cX3_ofNext 25 = .ok (.ixor, 1) := by decide +kernel
theorem dX3_ofNext_26 : decode cX3_ofNext 26 = .ok (.iand, 1) := by decide +kernel
theorem dX3_ofNext_27 : decode cX3_ofNext 27 = .ok (.invokestatic 18, 3) := by decide +kernel
theorem dX3_ofNext_30 : decode cX3_ofNext 30 = .ok (.ireturn, 1) := by decide +kernel

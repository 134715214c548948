theorem dX0_init_0 : decode cX0_init 0 = .ok (.aload_n 0, 1) := by decide +kernel
theorem dX0_init_1 : decode cX0_init 1 = .ok (.invokespecial 3, 3) := by decide +kernel
theorem dX0_init_4 : decode cX0_init 4 = .ok (.aload_n 0, 1) := by decide +kernel
theorem dX0_init_5 : decode cX0_init 5 = .ok (.bipush 6, 2) := by decide +kernel
theorem dX0_init_7 : decode cX0_init 7 = .ok (.anewarray 9, 3) := by decide +kernel
theorem dX0_init_10 : decode cX0_init 10 = .ok (.putfield 11, 3) := by decide +kernel
theorem dX0_init_13 : decode cX0_init 13 = .ok (.aload_n 0, 1) := by decide +kernel
theorem dX0_init_14 : decode cX0_init 14 = .ok (.iconst 0, 1) := by decide +kernel
theorem dX0_init_15 : decode cX0_init 15 = .ok (.putfield 17, 3) := by decide +kernel
theorem dX0_init_18 : decode cX0_init 18 = .ok (.aload_n 0, 1) := by decide +kernel
theorem dX0_init_19 : decode cX0_init 19 = .ok (.iconst 0, 1) := by decide +kernel
theorem dX0_init_20 : decode cX0_init 20 = .ok (.putfield 21, 3) := by decide +kernel
theorem dX0_init_23 : decode cX0_init 23 = .ok (.iconst 0, 1) := by decide +kernel
theorem dX0_init_24 : decode cX0_init 24 = .ok (.istore_n 1, 1) := by decide +kernel
theorem dX0_init_25 : decode cX0_init 25 = .ok (.iload_n 1, 1) := by decide +kernel
theorem dX0_init_26 : decode cX0_init 26 = .ok (.bipush 6, 2) := by decide +kernel
theorem dX0_init_28 : decode cX0_init 28 = .ok (.if_icmp .ge 22, 3) := by decide +kernel
theorem dX0_init_31 : decode cX0_init 31 = .ok (.aload_n 0, 1) := by decide +kernel
theorem dX0_init_32 : decode cX0_init 32 = .ok (.getfield 11, 3) := by decide +kernel
theorem dX0_init_35 : decode cX0_init 35 = .ok (.iload_n 1, 1) := by decide +kernel
theorem dX0_init_36 : decode cX0_init 36 = .ok (.new 9, 3) := by decide +kernel
theorem dX0_init_39 : decode cX0_init 39 = .ok (.dup, 1) := by decide +kernel
theorem dX0_init_40 : decode cX0_init 40 = .ok (.invokespecial 24, 3) := by decide +kernel
theorem dX0_init_43 : decode cX0_init 43 = .ok (.aastore, 1) := by decide +kernel
theorem dX0_init_44 : decode cX0_init 44 = .ok (.iinc 1 1, 3) := by decide +kernel
theorem dX0_init_47 : decode cX0_init 47 = .ok (.goto (-22), 3) := by decide +kernel
theorem dX0_init_50 : decode cX0_init 50 = .ok (.return_, 1) := by decide +kernel
theorem dX0_keep_0 : decode cX0_keep 0 = .ok (.aload_n 0, 1) := by decide +kernel
theorem dX0_keep_1 : decode cX0_keep 1 = .ok (.getfield 11, 3) := by decide +kernel
theorem dX0_keep_4 : decode cX0_keep 4 = .ok (.aload_n 0, 1) := by decide +kernel
theorem dX0_keep_5 : decode cX0_keep 5 = .ok (.getfield 17, 3) := by decide +kernel
theorem dX0_keep_8 : decode cX0_keep 8 = .ok (.aload_n 0, 1) := by decide +kernel
theorem dX0_keep_9 : decode cX0_keep 9 = .ok (.getfield 21, 3) := by decide +kernel
theorem dX0_keep_12 : decode cX0_keep 12 = .ok (.iadd, 1) := by decide +kernel
theorem dX0_keep_13 : decode cX0_keep 13 = .ok (.bipush 6, 2) := by decide +kernel
theorem dX0_keep_15 : decode cX0_keep 15 = .ok (.irem, 1) := by decide +kernel
theorem dX0_keep_16 : decode cX0_keep 16 = .ok (.aaload, 1) := by decide +kernel
theorem dX0_keep_17 : decode cX0_keep 17 = .ok (.aload_n 1, 1) := by decide +kernel
theorem dX0_keep_18 : decode cX0_keep 18 = .ok (.invokevirtual 25, 3) := by decide +kernel
theorem dX0_keep_21 : decode cX0_keep 21 = .ok (.aload_n 0, 1) := by decide +kernel
theorem dX0_keep_22 : decode cX0_keep 22 = .ok (.getfield 21, 3) := by decide +kernel
theorem dX0_keep_25 : decode cX0_keep 25 = .ok (.bipush 6, 2) := by decide +kernel
theorem dX0_keep_27 : decode cX0_keep 27 = .ok (.if_icmp .ge 16, 3) := by decide +kernel
theorem dX0_keep_30 : decode cX0_keep 30 = .ok (.aload_n 0, 1) := by decide +kernel
theorem dX0_keep_31 : decode cX0_keep 31 = .ok (.dup, 1) := by decide +kernel
theorem dX0_keep_32 : decode cX0_keep 32 = .ok (.getfield 21, 3) := by decide +kernel
theorem dX0_keep_35 : decode cX0_keep 35 = .ok (.iconst 1, 1) := by decide +kernel
theorem dX0_keep_36 : decode cX0_keep 36 = .ok (.iadd, 1) := by decide +kernel
theorem dX0_keep_37 : decode cX0_keep 37 = .ok (.putfield 21, 3) := by decide +kernel
theorem dX0_keep_40 : decode cX0_keep 40 = .ok (.goto 16, 3) := by decide +kernel
theorem dX0_keep_43 : decode cX0_keep 43 = .ok (.aload_n 0, 1) := by decide +kernel
theorem dX0_keep_44 : decode cX0_keep 44 = .ok (.aload_n 0, 1) := by decide +kernel
theorem dX0_keep_45 : decode cX0_keep 45 = .ok (.getfield 17, 3) := by decide +kernel
theorem dX0_keep_48 : decode cX0_keep 48 = .ok (.iconst 1, 1) := by decide +kernel
theorem dX0_keep_49 : decode cX0_keep 49 = .ok (.iadd, 1) := by decide +kernel
theorem dX0_keep_50 : decode cX0_keep 50 = .ok (.bipush 6, 2) := by decide +kernel
theorem dX0_keep_52 : decode cX0_keep 52 = .ok (.irem, 1) := by decide +kernel
theorem dX0_keep_53 : decode cX0_keep 53 = .ok (.putfield 17, 3) := by decide +kernel
theorem dX0_keep_56 : decode cX0_keep 56 = .ok (.return_, 1) := by decide +kernel
theorem dX0_takeBack_0 : decode cX0_takeBack 0 = .ok (.aload_n 0, 1) := by decide +kernel
theorem dX0_takeBack_1 : decode cX0_takeBack 1 = .ok (.getfield 21, 3) := by decide +kernel
theorem dX0_takeBack_4 : decode cX0_takeBack 4 = .ok (.ifCond .le 34, 3) := by decide +kernel
theorem dX0_takeBack_7 : decode cX0_takeBack 7 = .ok (.aload_n 0, 1) := by decide +kernel
theorem dX0_takeBack_8 : decode cX0_takeBack 8 = .ok (.dup, 1) := by decide +kernel
theorem dX0_takeBack_9 : decode cX0_takeBack 9 = .ok (.getfield 21, 3) := by decide +kernel
theorem dX0_takeBack_12 : decode cX0_takeBack 12 = .ok (.iconst 1, 1) := by decide +kernel
theorem dX0_takeBack_13 : decode cX0_takeBack 13 = .ok (.isub, 1) := by decide +kernel
theorem dX0_takeBack_14 : decode cX0_takeBack 14 = .ok (.putfield 21, 3) := by decide +kernel
theorem dX0_takeBack_17 : decode cX0_takeBack 17 = .ok (.aload_n 1, 1) := by decide +kernel
theorem dX0_takeBack_18 : decode cX0_takeBack 18 = .ok (.aload_n 0, 1) := by decide +kernel
theorem dX0_takeBack_19 : decode cX0_takeBack 19 = .ok (.getfield 11, 3) := by decide +kernel
theorem dX0_takeBack_22 : decode cX0_takeBack 22 = .ok (.aload_n 0, 1) := by decide +kernel
theorem dX0_takeBack_23 : decode cX0_takeBack 23 = .ok (.getfield 17, 3) := by decide +kernel
theorem dX0_takeBack_26 : decode cX0_takeBack 26 = .ok (.aload_n 0, 1) := by decide +kernel
theorem dX0_takeBack_27 : decode cX0_takeBack 27 = .ok (.getfield 21, 3) := by decide +kernel
theorem dX0_takeBack_30 : decode cX0_takeBack 30 = .ok (.iadd, 1) := by decide +kernel
theorem dX0_takeBack_31 : decode cX0_takeBack 31 = .ok (.bipush 6, 2) := by decide +kernel
theorem dX0_takeBack_33 : decode cX0_takeBack 33 = .ok (.irem, 1) := by decide +kernel
theorem dX0_takeBack_34 : decode cX0_takeBack 34 = .ok (.aaload, 1) := by decide +kernel
theorem dX0_takeBack_35 : decode cX0_takeBack 35 = .ok (.invokevirtual 25, 3) := by decide +kernel
theorem dX0_takeBack_38 : decode cX0_takeBack 38 = .ok (.return_, 1) := by decide +kernel
theorem dX1_init_0 : decode cX1_init 0 = .ok (.aload_n 0, 1) := by decide +kernel
theorem dX1_init_1 : decode cX1_init 1 = .ok (.invokespecial 3, 3) := by decide +kernel
theorem dX1_init_4 : decode cX1_init 4 = .ok (.aload_n 0, 1) := by decide +kernel
theorem dX1_init_5 : decode cX1_init 5 = .ok (.sipush 256, 3) := by decide +kernel
theorem dX1_init_8 : decode cX1_init 8 = .ok (.newarray .int, 2) := by decide +kernel
theorem dX1_init_10 : decode cX1_init 10 = .ok (.putfield 9, 3) := by decide +kernel
theorem dX1_init_13 : decode cX1_init 13 = .ok (.aload_n 0, 1) := by decide +kernel
theorem dX1_init_14 : decode cX1_init 14 = .ok (.bipush 85, 2) := by decide +kernel
theorem dX1_init_16 : decode cX1_init 16 = .ok (.newarray .int, 2) := by decide +kernel
theorem dX1_init_18 : decode cX1_init 18 = .ok (.putfield 15, 3) := by decide +kernel
theorem dX1_init_21 : decode cX1_init 21 = .ok (.return_, 1) := by decide +kernel
theorem dX1_become_0 : decode cX1_become 0 = .ok (.aload_n 1, 1) := by decide +kernel
theorem dX1_become_1 : decode cX1_become 1 = .ok (.getfield 9, 3) := by decide +kernel
theorem dX1_become_4 : decode cX1_become 4 = .ok (.iconst 0, 1) := by decide +kernel
theorem dX1_become_5 : decode cX1_become 5 = .ok (.aload_n 0, 1) := by decide +kernel
theorem dX1_become_6 : decode cX1_become 6 = .ok (.getfield 9, 3) := by decide +kernel
theorem dX1_become_9 : decode cX1_become 9 = .ok (.iconst 0, 1) := by decide +kernel
theorem dX1_become_10 : decode cX1_become 10 = .ok (.sipush 256, 3) := by decide +kernel
theorem dX1_become_13 : decode cX1_become 13 = .ok (.invokestatic 18, 3) := by decide +kernel
theorem dX1_become_16 : decode cX1_become 16 = .ok (.aload_n 1, 1) := by decide +kernel
theorem dX1_become_17 : decode cX1_become 17 = .ok (.getfield 15, 3) := by decide +kernel
theorem dX1_become_20 : decode cX1_become 20 = .ok (.iconst 0, 1) := by decide +kernel
theorem dX1_become_21 : decode cX1_become 21 = .ok (.aload_n 0, 1) := by decide +kernel
theorem dX1_become_22 : decode cX1_become 22 = .ok (.getfield 15, 3) := by decide +kernel
theorem dX1_become_25 : decode cX1_become 25 = .ok (.iconst 0, 1) := by decide +kernel
theorem dX1_become_26 : decode cX1_become 26 = .ok (.bipush 85, 2) := by decide +kernel
theorem dX1_become_28 : decode cX1_become 28 = .ok (.invokestatic 18, 3) := by decide +kernel
theorem dX1_become_31 : decode cX1_become 31 = .ok (.return_, 1) := by decide +kernel
theorem dX1_cellOf_0 : decode cX1_cellOf 0 = .ok (.iload_n 0, 1) := by decide +kernel
theorem dX1_cellOf_1 : decode cX1_cellOf 1 = .ok (.bipush 16, 2) := by decide +kernel
theorem dX1_cellOf_3 : decode cX1_cellOf 3 = .ok (.imul, 1) := by decide +kernel
theorem dX1_cellOf_4 : decode cX1_cellOf 4 = .ok (.iload_n 1, 1) := by decide +kernel
theorem dX1_cellOf_5 : decode cX1_cellOf 5 = .ok (.iadd, 1) := by decide +kernel
theorem dX1_cellOf_6 : decode cX1_cellOf 6 = .ok (.ireturn, 1) := by decide +kernel
theorem dX1_numberOf_0 : decode cX1_numberOf 0 = .ok (.iconst 4, 1) := by decide +kernel
theorem dX1_numberOf_1 : decode cX1_numberOf 1 = .ok (.iload_n 0, 1) := by decide +kernel
theorem dX1_numberOf_2 : decode cX1_numberOf 2 = .ok (.isub, 1) := by decide +kernel
theorem dX1_numberOf_3 : decode cX1_numberOf 3 = .ok (.istore_n 3, 1) := by decide +kernel
theorem dX1_numberOf_4 : decode cX1_numberOf 4 = .ok (.iconst 1, 1) := by decide +kernel
theorem dX1_numberOf_5 : decode cX1_numberOf 5 = .ok (.iconst 2, 1) := by decide +kernel
theorem dX1_numberOf_6 : decode cX1_numberOf 6 = .ok (.iload_n 0, 1) := by decide +kernel
theorem dX1_numberOf_7 : decode cX1_numberOf 7 = .ok (.imul, 1) := by decide +kernel
theorem dX1_numberOf_8 : decode cX1_numberOf 8 = .ok (.ishl, 1) := by decide +kernel
theorem dX1_numberOf_9 : decode cX1_numberOf 9 = .ok (.iconst 1, 1) := by decide +kernel
theorem dX1_numberOf_10 : decode cX1_numberOf 10 = .ok (.isub, 1) := by decide +kernel
theorem dX1_numberOf_11 : decode cX1_numberOf 11 = .ok (.iconst 3, 1) := by decide +kernel
theorem dX1_numberOf_12 : decode cX1_numberOf 12 = .ok (.idiv, 1) := by decide +kernel
theorem dX1_numberOf_13 : decode cX1_numberOf 13 = .ok (.istore 4, 2) := by decide +kernel
theorem dX1_numberOf_15 : decode cX1_numberOf 15 = .ok (.iload 4, 2) := by decide +kernel
theorem dX1_numberOf_17 : decode cX1_numberOf 17 = .ok (.iload_n 1, 1) := by decide +kernel
theorem dX1_numberOf_18 : decode cX1_numberOf 18 = .ok (.iload_n 3, 1) := by decide +kernel
theorem dX1_numberOf_19 : decode cX1_numberOf 19 = .ok (.ishr, 1) := by decide +kernel
theorem dX1_numberOf_20 : decode cX1_numberOf 20 = .ok (.iload_n 0, 1) := by decide +kernel
theorem dX1_numberOf_21 : decode cX1_numberOf 21 = .ok (.ishl, 1) := by decide +kernel
theorem dX1_numberOf_22 : decode cX1_numberOf 22 = .ok (.iadd, 1) := by decide +kernel
theorem dX1_numberOf_23 : decode cX1_numberOf 23 = .ok (.iload_n 2, 1) := by decide +kernel
theorem dX1_numberOf_24 : decode cX1_numberOf 24 = .ok (.iload_n 3, 1) := by decide +kernel
theorem dX1_numberOf_25 : decode cX1_numberOf 25 = .ok (.ishr, 1) := by decide +kernel
theorem dX1_numberOf_26 : decode cX1_numberOf 26 = .ok (.iadd, 1) := by decide +kernel
theorem dX1_numberOf_27 : decode cX1_numberOf 27 = .ok (.ireturn, 1) := by decide +kernel
theorem dX1_rowOfPart_0 : decode cX1_rowOfPart 0 = .ok (.iload_n 1, 1) := by decide +kernel
theorem dX1_rowOfPart_1 : decode cX1_rowOfPart 1 = .ok (.iload_n 2, 1) := by decide +kernel
theorem dX1_rowOfPart_2 : decode cX1_rowOfPart 2 = .ok (.iconst 2, 1) := by decide +kernel
theorem dX1_rowOfPart_3 : decode cX1_rowOfPart 3 = .ok (.idiv, 1) := by decide +kernel
theorem dX1_rowOfPart_4 : decode cX1_rowOfPart 4 = .ok (.iload_n 0, 1) := by decide +kernel
theorem dX1_rowOfPart_5 : decode cX1_rowOfPart 5 = .ok (.iconst 1, 1) := by decide +kernel
theorem dX1_rowOfPart_6 : decode cX1_rowOfPart 6 = .ok (.iadd, 1) := by decide +kernel
theorem dX1_rowOfPart_7 : decode cX1_rowOfPart 7 = .ok (.invokestatic 24, 3) := by decide +kernel
theorem dX1_rowOfPart_10 : decode cX1_rowOfPart 10 = .ok (.imul, 1) := by decide +kernel
theorem dX1_rowOfPart_11 : decode cX1_rowOfPart 11 = .ok (.iadd, 1) := by decide +kernel
theorem dX1_rowOfPart_12 : decode cX1_rowOfPart 12 = .ok (.ireturn, 1) := by decide +kernel
theorem dX1_columnOfPart_0 : decode cX1_columnOfPart 0 = .ok (.iload_n 1, 1) := by decide +kernel
theorem dX1_columnOfPart_1 : decode cX1_columnOfPart 1 = .ok (.iload_n 2, 1) := by decide +kernel
theorem dX1_columnOfPart_2 : decode cX1_columnOfPart 2 = .ok (.iconst 2, 1) := by decide +kernel
theorem dX1_columnOfPart_3 : decode cX1_columnOfPart 3 = .ok (.irem, 1) := by decide +kernel
theorem dX1_columnOfPart_4 : decode cX1_columnOfPart 4 = .ok (.iload_n 0, 1) := by decide +kernel
theorem dX1_columnOfPart_5 : decode cX1_columnOfPart 5 = .ok (.iconst 1, 1) := by decide +kernel
theorem dX1_columnOfPart_6 : decode cX1_columnOfPart 6 = .ok (.iadd, 1) := by decide +kernel
theorem dX1_columnOfPart_7 : decode cX1_columnOfPart 7 = .ok (.invokestatic 24, 3) := by decide +kernel
theorem dX1_columnOfPart_10 : decode cX1_columnOfPart 10 = .ok (.imul, 1) := by decide +kernel
theorem dX1_columnOfPart_11 : decode cX1_columnOfPart 11 = .ok (.iadd, 1) := by decide +kernel
theorem dX1_columnOfPart_12 : decode cX1_columnOfPart 12 = .ok (.ireturn, 1) := by decide +kernel
theorem dX1_entryAt_0 : decode cX1_entryAt 0 = .ok (.aload_n 0, 1) := by decide +kernel
theorem dX1_entryAt_1 : decode cX1_entryAt 1 = .ok (.getfield 9, 3) := by decide +kernel
theorem dX1_entryAt_4 : decode cX1_entryAt 4 = .ok (.iload_n 1, 1) := by decide +kernel
theorem dX1_entryAt_5 : decode cX1_entryAt 5 = .ok (.iload_n 2, 1) := by decide +kernel
theorem dX1_entryAt_6 : decode cX1_entryAt 6 = .ok (.invokestatic 28, 3) := by decide +kernel
theorem dX1_entryAt_9 : decode cX1_entryAt 9 = .ok (.iaload, 1) := by decide +kernel
theorem dX1_entryAt_10 : decode cX1_entryAt 10 = .ok (.ireturn, 1) := by decide +kernel
theorem dX1_sortOf_0 : decode cX1_sortOf 0 = .ok (.aload_n 0, 1) := by decide +kernel
theorem dX1_sortOf_1 : decode cX1_sortOf 1 = .ok (.getfield 15, 3) := by decide +kernel
theorem dX1_sortOf_4 : decode cX1_sortOf 4 = .ok (.iload_n 1, 1) := by decide +kernel
theorem dX1_sortOf_5 : decode cX1_sortOf 5 = .ok (.iload_n 2, 1) := by decide +kernel
theorem dX1_sortOf_6 : decode cX1_sortOf 6 = .ok (.iload_n 3, 1) := by decide +kernel
theorem dX1_sortOf_7 : decode cX1_sortOf 7 = .ok (.invokestatic 32, 3) := by decide +kernel
theorem dX1_sortOf_10 : decode cX1_sortOf 10 = .ok (.iaload, 1) := by decide +kernel
theorem dX1_sortOf_11 : decode cX1_sortOf 11 = .ok (.ireturn, 1) := by decide +kernel
theorem dX1_setSort_0 : decode cX1_setSort 0 = .ok (.aload_n 0, 1) := by decide +kernel
theorem dX1_setSort_1 : decode cX1_setSort 1 = .ok (.getfield 15, 3) := by decide +kernel
theorem dX1_setSort_4 : decode cX1_setSort 4 = .ok (.iload_n 1, 1) := by decide +kernel
theorem dX1_setSort_5 : decode cX1_setSort 5 = .ok (.iload_n 2, 1) := by decide +kernel
theorem dX1_setSort_6 : decode cX1_setSort 6 = .ok (.iload_n 3, 1) := by decide +kernel
theorem dX1_setSort_7 : decode cX1_setSort 7 = .ok (.invokestatic 32, 3) := by decide +kernel
theorem dX1_setSort_10 : decode cX1_setSort 10 = .ok (.iload 4, 2) := by decide +kernel
theorem dX1_setSort_12 : decode cX1_setSort 12 = .ok (.iastore, 1) := by decide +kernel
theorem dX1_setSort_13 : decode cX1_setSort 13 = .ok (.return_, 1) := by decide +kernel
theorem dX1_isCut_0 : decode cX1_isCut 0 = .ok (.iload_n 1, 1) := by decide +kernel
theorem dX1_isCut_1 : decode cX1_isCut 1 = .ok (.iconst 3, 1) := by decide +kernel
theorem dX1_isCut_2 : decode cX1_isCut 2 = .ok (.if_icmp .ge 18, 3) := by decide +kernel
theorem dX1_isCut_5 : decode cX1_isCut 5 = .ok (.aload_n 0, 1) := by decide +kernel
theorem dX1_isCut_6 : decode cX1_isCut 6 = .ok (.iload_n 1, 1) := by decide +kernel
theorem dX1_isCut_7 : decode cX1_isCut 7 = .ok (.iload_n 2, 1) := by decide +kernel
theorem dX1_isCut_8 : decode cX1_isCut 8 = .ok (.iload_n 3, 1) := by decide +kernel
theorem dX1_isCut_9 : decode cX1_isCut 9 = .ok (.invokevirtual 36, 3) := by decide +kernel
theorem dX1_isCut_12 : decode cX1_isCut 12 = .ok (.iconst 3, 1) := by decide +kernel
theorem dX1_isCut_13 : decode cX1_isCut 13 = .ok (.if_icmp .ne 7, 3) := by decide +kernel
theorem dX1_isCut_16 : decode cX1_isCut 16 = .ok (.iconst 1, 1) := by decide +kernel
theorem dX1_isCut_17 : decode cX1_isCut 17 = .ok (.goto 4, 3) := by decide +kernel
theorem dX1_isCut_20 : decode cX1_isCut 20 = .ok (.iconst 0, 1) := by decide +kernel
theorem dX1_isCut_21 : decode cX1_isCut 21 = .ok (.ireturn, 1) := by decide +kernel
theorem dX1_depthOf_0 : decode cX1_depthOf 0 = .ok (.iconst 0, 1) := by decide +kernel
theorem dX1_depthOf_1 : decode cX1_depthOf 1 = .ok (.istore_n 3, 1) := by decide +kernel
theorem dX1_depthOf_2 : decode cX1_depthOf 2 = .ok (.iload_n 3, 1) := by decide +kernel
theorem dX1_depthOf_3 : decode cX1_depthOf 3 = .ok (.iconst 3, 1) := by decide +kernel
theorem dX1_depthOf_4 : decode cX1_depthOf 4 = .ok (.if_icmp .ge 19, 3) := by decide +kernel
theorem dX1_depthOf_7 : decode cX1_depthOf 7 = .ok (.aload_n 0, 1) := by decide +kernel
theorem dX1_depthOf_8 : decode cX1_depthOf 8 = .ok (.iload_n 3, 1) := by decide +kernel
theorem dX1_depthOf_9 : decode cX1_depthOf 9 = .ok (.iload_n 1, 1) := by decide +kernel
theorem dX1_depthOf_10 : decode cX1_depthOf 10 = .ok (.iload_n 2, 1) := by decide +kernel
theorem dX1_depthOf_11 : decode cX1_depthOf 11 = .ok (.invokevirtual 39, 3) := by decide +kernel
theorem dX1_depthOf_14 : decode cX1_depthOf 14 = .ok (.ifCond .eq 9, 3) := by decide +kernel
theorem dX1_depthOf_17 : decode cX1_depthOf 17 = .ok (.iinc 3 1, 3) := by decide +kernel
theorem dX1_depthOf_20 : decode cX1_depthOf 20 = .ok (.goto (-18), 3) := by decide +kernel
theorem dX1_depthOf_23 : decode cX1_depthOf 23 = .ok (.iload_n 3, 1) := by decide +kernel
theorem dX1_depthOf_24 : decode cX1_depthOf 24 = .ok (.ireturn, 1) := by decide +kernel
theorem dX1_deepest_0 : decode cX1_deepest 0 = .ok (.iconst 0, 1) := by decide +kernel
theorem dX1_deepest_1 : decode cX1_deepest 1 = .ok (.istore_n 1, 1) := by decide +kernel
theorem dX1_deepest_2 : decode cX1_deepest 2 = .ok (.iconst 0, 1) := by decide +kernel
theorem dX1_deepest_3 : decode cX1_deepest 3 = .ok (.istore_n 2, 1) := by decide +kernel
theorem dX1_deepest_4 : decode cX1_deepest 4 = .ok (.iload_n 2, 1) := by decide +kernel
theorem dX1_deepest_5 : decode cX1_deepest 5 = .ok (.sipush 256, 3) := by decide +kernel
theorem dX1_deepest_8 : decode cX1_deepest 8 = .ok (.if_icmp .ge 26, 3) := by decide +kernel
theorem dX1_deepest_11 : decode cX1_deepest 11 = .ok (.iload_n 1, 1) := by decide +kernel
theorem dX1_deepest_12 : decode cX1_deepest 12 = .ok (.aload_n 0, 1) := by decide +kernel
theorem dX1_deepest_13 : decode cX1_deepest 13 = .ok (.iload_n 2, 1) := by decide +kernel
theorem dX1_deepest_14 : decode cX1_deepest 14 = .ok (.bipush 16, 2) := by decide +kernel
theorem dX1_deepest_16 : decode cX1_deepest 16 = .ok (.idiv, 1) := by decide +kernel
theorem dX1_deepest_17 : decode cX1_deepest 17 = .ok (.iload_n 2, 1) := by decide +kernel
theorem dX1_deepest_18 : decode cX1_deepest 18 = .ok (.bipush 16, 2) := by decide +kernel
theorem dX1_deepest_20 : decode cX1_deepest 20 = .ok (.irem, 1) := by decide +kernel
theorem dX1_deepest_21 : decode cX1_deepest 21 = .ok (.invokevirtual 43, 3) := by decide +kernel
theorem dX1_deepest_24 : decode cX1_deepest 24 = .ok (.invokestatic 46, 3) := by decide +kernel
theorem dX1_deepest_27 : decode cX1_deepest 27 = .ok (.istore_n 1, 1) := by decide +kernel
theorem dX1_deepest_28 : decode cX1_deepest 28 = .ok (.iinc 2 1, 3) := by decide +kernel
theorem dX1_deepest_31 : decode cX1_deepest 31 = .ok (.goto (-27), 3) := by decide +kernel
theorem dX1_deepest_34 : decode cX1_deepest 34 = .ok (.iload_n 1, 1) := by decide +kernel
theorem dX1_deepest_35 : decode cX1_deepest 35 = .ok (.ireturn, 1) := by decide +kernel
theorem dX1_room_0 : decode cX1_room 0 = .ok (.aload_n 0, 1) := by decide +kernel
theorem dX1_room_1 : decode cX1_room 1 = .ok (.iconst 0, 1) := by decide +kernel
theorem dX1_room_2 : decode cX1_room 2 = .ok (.iconst 0, 1) := by decide +kernel
theorem dX1_room_3 : decode cX1_room 3 = .ok (.iconst 0, 1) := by decide +kernel
theorem dX1_room_4 : decode cX1_room 4 = .ok (.invokevirtual 51, 3) := by decide +kernel
theorem dX1_room_7 : decode cX1_room 7 = .ok (.ireturn, 1) := by decide +kernel
theorem dX1_roomFrom_0 : decode cX1_roomFrom 0 = .ok (.aload_n 0, 1) := by decide +kernel
theorem dX1_roomFrom_1 : decode cX1_roomFrom 1 = .ok (.iload_n 1, 1) := by decide +kernel
theorem dX1_roomFrom_2 : decode cX1_roomFrom 2 = .ok (.iload_n 2, 1) := by decide +kernel
theorem dX1_roomFrom_3 : decode cX1_roomFrom 3 = .ok (.iload_n 3, 1) := by decide +kernel
theorem dX1_roomFrom_4 : decode cX1_roomFrom 4 = .ok (.invokevirtual 39, 3) := by decide +kernel
theorem dX1_roomFrom_7 : decode cX1_roomFrom 7 = .ok (.ifCond .ne 18, 3) := by decide +kernel
theorem dX1_roomFrom_10 : decode cX1_roomFrom 10 = .ok (.aload_n 0, 1) := by decide +kernel
theorem dX1_roomFrom_11 : decode cX1_roomFrom 11 = .ok (.iload_n 1, 1) := by decide +kernel
theorem dX1_roomFrom_12 : decode cX1_roomFrom 12 = .ok (.iload_n 2, 1) := by decide +kernel
theorem dX1_roomFrom_13 : decode cX1_roomFrom 13 = .ok (.iload_n 3, 1) := by decide +kernel
theorem dX1_roomFrom_14 : decode cX1_roomFrom 14 = .ok (.invokevirtual 36, 3) := by decide +kernel
theorem dX1_roomFrom_17 : decode cX1_roomFrom 17 = .ok (.iload_n 1, 1) := by decide +kernel
theorem dX1_roomFrom_18 : decode cX1_roomFrom 18 = .ok (.invokestatic 24, 3) := by decide +kernel
theorem dX1_roomFrom_21 : decode cX1_roomFrom 21 = .ok (.invokestatic 54, 3) := by decide +kernel
theorem dX1_roomFrom_24 : decode cX1_roomFrom 24 = .ok (.ireturn, 1) := by decide +kernel
theorem dX1_roomFrom_25 : decode cX1_roomFrom 25 = .ok (.iconst 1, 1) := by decide +kernel
theorem dX1_roomFrom_26 : decode cX1_roomFrom 26 = .ok (.istore 4, 2) := by decide +kernel
theorem dX1_roomFrom_28 : decode cX1_roomFrom 28 = .ok (.iconst 0, 1) := by decide +kernel
theorem dX1_roomFrom_29 : decode cX1_roomFrom 29 = .ok (.istore 5, 2) := by decide +kernel
theorem dX1_roomFrom_31 : decode cX1_roomFrom 31 = .ok (.iload 5, 2) := by decide +kernel
theorem dX1_roomFrom_33 : decode cX1_roomFrom 33 = .ok (.iconst 4, 1) := by decide +kernel
theorem dX1_roomFrom_34 : decode cX1_roomFrom 34 = .ok (.if_icmp .ge 35, 3) := by decide +kernel
theorem dX1_roomFrom_37 : decode cX1_roomFrom 37 = .ok (.iload 4, 2) := by decide +kernel
theorem dX1_roomFrom_39 : decode cX1_roomFrom 39 = .ok (.aload_n 0, 1) := by decide +kernel
theorem dX1_roomFrom_40 : decode cX1_roomFrom 40 = .ok (.iload_n 1, 1) := by decide +kernel
theorem dX1_roomFrom_41 : decode cX1_roomFrom 41 = .ok (.iconst 1, 1) := by decide +kernel
theorem dX1_roomFrom_42 : decode cX1_roomFrom 42 = .ok (.iadd, 1) := by decide +kernel
theorem dX1_roomFrom_43 : decode cX1_roomFrom 43 = .ok (.iload_n 1, 1) := by decide +kernel
theorem dX1_roomFrom_44 : decode cX1_roomFrom 44 = .ok (.iload_n 2, 1) := by decide +kernel
theorem dX1_roomFrom_45 : decode cX1_roomFrom 45 = .ok (.iload 5, 2) := by decide +kernel
theorem dX1_roomFrom_47 : decode cX1_roomFrom 47 = .ok (.invokestatic 57, 3) := by decide +kernel
theorem dX1_roomFrom_50 : decode cX1_roomFrom 50 = .ok (.iload_n 1, 1) := by decide +kernel
theorem dX1_roomFrom_51 : decode cX1_roomFrom 51 = .ok (.iload_n 3, 1) := by decide +kernel
theorem dX1_roomFrom_52 : decode cX1_roomFrom 52 = .ok (.iload 5, 2) := by decide +kernel
theorem dX1_roomFrom_54 : decode cX1_roomFrom 54 = .ok (.invokestatic 60, 3) := by decide +kernel
theorem dX1_roomFrom_57 : decode cX1_roomFrom 57 = .ok (.invokevirtual 51, 3) := by decide +kernel
theorem dX1_roomFrom_60 : decode cX1_roomFrom 60 = .ok (.iadd, 1) := by decide +kernel
theorem dX1_roomFrom_61 : decode cX1_roomFrom 61 = .ok (.istore 4, 2) := by decide +kernel
theorem dX1_roomFrom_63 : decode cX1_roomFrom 63 = .ok (.iinc 5 1, 3) := by decide +kernel
theorem dX1_roomFrom_66 : decode cX1_roomFrom 66 = .ok (.goto (-35), 3) := by decide +kernel
theorem dX1_roomFrom_69 : decode cX1_roomFrom 69 = .ok (.iload 4, 2) := by decide +kernel
theorem dX1_roomFrom_71 : decode cX1_roomFrom 71 = .ok (.ireturn, 1) := by decide +kernel
theorem dX1_blocksOf_0 : decode cX1_blocksOf 0 = .ok (.aload_n 0, 1) := by decide +kernel
theorem dX1_blocksOf_1 : decode cX1_blocksOf 1 = .ok (.iload_n 1, 1) := by decide +kernel
theorem dX1_blocksOf_2 : decode cX1_blocksOf 2 = .ok (.iconst 0, 1) := by decide +kernel
theorem dX1_blocksOf_3 : decode cX1_blocksOf 3 = .ok (.iconst 0, 1) := by decide +kernel
theorem dX1_blocksOf_4 : decode cX1_blocksOf 4 = .ok (.iconst 0, 1) := by decide +kernel
theorem dX1_blocksOf_5 : decode cX1_blocksOf 5 = .ok (.invokevirtual 63, 3) := by decide +kernel
theorem dX1_blocksOf_8 : decode cX1_blocksOf 8 = .ok (.ireturn, 1) := by decide +kernel
theorem dX1_blocksFrom_0 : decode cX1_blocksFrom 0 = .ok (.aload_n 0, 1) := by decide +kernel
theorem dX1_blocksFrom_1 : decode cX1_blocksFrom 1 = .ok (.iload_n 2, 1) := by decide +kernel
theorem dX1_blocksFrom_2 : decode cX1_blocksFrom 2 = .ok (.iload_n 3, 1) := by decide +kernel
theorem dX1_blocksFrom_3 : decode cX1_blocksFrom 3 = .ok (.iload 4, 2) := by decide +kernel
theorem dX1_blocksFrom_5 : decode cX1_blocksFrom 5 = .ok (.invokevirtual 36, 3) := by decide +kernel
theorem dX1_blocksFrom_8 : decode cX1_blocksFrom 8 = .ok (.iload_n 1, 1) := by decide +kernel
theorem dX1_blocksFrom_9 : decode cX1_blocksFrom 9 = .ok (.if_icmp .ne 7, 3) := by decide +kernel
theorem dX1_blocksFrom_12 : decode cX1_blocksFrom 12 = .ok (.iconst 1, 1) := by decide +kernel
theorem dX1_blocksFrom_13 : decode cX1_blocksFrom 13 = .ok (.goto 4, 3) := by decide +kernel
theorem dX1_blocksFrom_16 : decode cX1_blocksFrom 16 = .ok (.iconst 0, 1) := by decide +kernel
theorem dX1_blocksFrom_17 : decode cX1_blocksFrom 17 = .ok (.istore 5, 2) := by decide +kernel
theorem dX1_blocksFrom_19 : decode cX1_blocksFrom 19 = .ok (.aload_n 0, 1) := by decide +kernel
theorem dX1_blocksFrom_20 : decode cX1_blocksFrom 20 = .ok (.iload_n 2, 1) := by decide +kernel
theorem dX1_blocksFrom_21 : decode cX1_blocksFrom 21 = .ok (.iload_n 3, 1) := by decide +kernel
theorem dX1_blocksFrom_22 : decode cX1_blocksFrom 22 = .ok (.iload 4, 2) := by decide +kernel
theorem dX1_blocksFrom_24 : decode cX1_blocksFrom 24 = .ok (.invokevirtual 39, 3) := by decide +kernel
theorem dX1_blocksFrom_27 : decode cX1_blocksFrom 27 = .ok (.ifCond .ne 6, 3) := by decide +kernel
theorem dX1_blocksFrom_30 : decode cX1_blocksFrom 30 = .ok (.iload 5, 2) := by decide +kernel
theorem dX1_blocksFrom_32 : decode cX1_blocksFrom 32 = .ok (.ireturn, 1) := by decide +kernel
theorem dX1_blocksFrom_33 : decode cX1_blocksFrom 33 = .ok (.iconst 0, 1) := by decide +kernel
theorem dX1_blocksFrom_34 : decode cX1_blocksFrom 34 = .ok (.istore 6, 2) := by decide +kernel
theorem dX1_blocksFrom_36 : decode cX1_blocksFrom 36 = .ok (.iload 6, 2) := by decide +kernel
theorem dX1_blocksFrom_38 : decode cX1_blocksFrom 38 = .ok (.iconst 4, 1) := by decide +kernel
theorem dX1_blocksFrom_39 : decode cX1_blocksFrom 39 = .ok (.if_icmp .ge 37, 3) := by decide +kernel
theorem dX1_blocksFrom_42 : decode cX1_blocksFrom 42 = .ok (.iload 5, 2) := by decide +kernel
theorem dX1_blocksFrom_44 : decode cX1_blocksFrom 44 = .ok (.aload_n 0, 1) := by decide +kernel
theorem dX1_blocksFrom_45 : decode cX1_blocksFrom 45 = .ok (.iload_n 1, 1) := by decide +kernel
theorem dX1_blocksFrom_46 : decode cX1_blocksFrom 46 = .ok (.iload_n 2, 1) := by decide +kernel
theorem dX1_blocksFrom_47 : decode cX1_blocksFrom 47 = .ok (.iconst 1, 1) := by decide +kernel
theorem dX1_blocksFrom_48 : decode cX1_blocksFrom 48 = .ok (.iadd, 1) := by decide +kernel
theorem dX1_blocksFrom_49 : decode cX1_blocksFrom 49 = .ok (.iload_n 2, 1) := by decide +kernel
theorem dX1_blocksFrom_50 : decode cX1_blocksFrom 50 = .ok (.iload_n 3, 1) := by decide +kernel
theorem dX1_blocksFrom_51 : decode cX1_blocksFrom 51 = .ok (.iload 6, 2) := by decide +kernel
theorem dX1_blocksFrom_53 : decode cX1_blocksFrom 53 = .ok (.invokestatic 57, 3) := by decide +kernel
theorem dX1_blocksFrom_56 : decode cX1_blocksFrom 56 = .ok (.iload_n 2, 1) := by decide +kernel
theorem dX1_blocksFrom_57 : decode cX1_blocksFrom 57 = .ok (.iload 4, 2) := by decide +kernel
theorem dX1_blocksFrom_59 : decode cX1_blocksFrom 59 = .ok (.iload 6, 2) := by decide +kernel
theorem dX1_blocksFrom_61 : decode cX1_blocksFrom 61 = .ok (.invokestatic 60, 3) := by decide +kernel
theorem dX1_blocksFrom_64 : decode cX1_blocksFrom 64 = .ok (.invokevirtual 63, 3) := by decide +kernel
theorem dX1_blocksFrom_67 : decode cX1_blocksFrom 67 = .ok (.iadd, 1) := by decide +kernel
theorem dX1_blocksFrom_68 : decode cX1_blocksFrom 68 = .ok (.istore 5, 2) := by decide +kernel
theorem dX1_blocksFrom_70 : decode cX1_blocksFrom 70 = .ok (.iinc 6 1, 3) := by decide +kernel
theorem dX1_blocksFrom_73 : decode cX1_blocksFrom 73 = .ok (.goto (-37), 3) := by decide +kernel
theorem dX1_blocksFrom_76 : decode cX1_blocksFrom 76 = .ok (.iload 5, 2) := by decide +kernel
theorem dX1_blocksFrom_78 : decode cX1_blocksFrom 78 = .ok (.ireturn, 1) := by decide +kernel
theorem dX1_changeEntry_0 : decode cX1_changeEntry 0 = .ok (.iconst 0, 1) := by decide +kernel
theorem dX1_changeEntry_1 : decode cX1_changeEntry 1 = .ok (.istore 4, 2) := by decide +kernel
theorem dX1_changeEntry_3 : decode cX1_changeEntry 3 = .ok (.iload 4, 2) := by decide +kernel
theorem dX1_changeEntry_5 : decode cX1_changeEntry 5 = .ok (.iconst 3, 1) := by decide +kernel
theorem dX1_changeEntry_6 : decode cX1_changeEntry 6 = .ok (.if_icmp .ge 28, 3) := by decide +kernel
theorem dX1_changeEntry_9 : decode cX1_changeEntry 9 = .ok (.aload_n 0, 1) := by decide +kernel
theorem dX1_changeEntry_10 : decode cX1_changeEntry 10 = .ok (.iload 4, 2) := by decide +kernel
theorem dX1_changeEntry_12 : decode cX1_changeEntry 12 = .ok (.iload_n 1, 1) := by decide +kernel
theorem dX1_changeEntry_13 : decode cX1_changeEntry 13 = .ok (.iload_n 2, 1) := by decide +kernel
theorem dX1_changeEntry_14 : decode cX1_changeEntry 14 = .ok (.invokevirtual 39, 3) := by decide +kernel
theorem dX1_changeEntry_17 : decode cX1_changeEntry 17 = .ok (.ifCond .ne 11, 3) := by decide +kernel
theorem dX1_changeEntry_20 : decode cX1_changeEntry 20 = .ok (.aload_n 0, 1) := by decide +kernel
theorem dX1_changeEntry_21 : decode cX1_changeEntry 21 = .ok (.iload 4, 2) := by decide +kernel
theorem dX1_changeEntry_23 : decode cX1_changeEntry 23 = .ok (.iload_n 1, 1) := by decide +kernel
theorem dX1_changeEntry_24 : decode cX1_changeEntry 24 = .ok (.iload_n 2, 1) := by decide +kernel
theorem dX1_changeEntry_25 : decode cX1_changeEntry 25 = .ok (.invokevirtual 67, 3) := by decide +kernel
theorem dX1_changeEntry_28 : decode cX1_changeEntry 28 = .ok (.iinc 4 1, 3) := by decide +kernel
theorem dX1_changeEntry_31 : decode cX1_changeEntry 31 = .ok (.goto (-28), 3) := by decide +kernel
theorem dX1_changeEntry_34 : decode cX1_changeEntry 34 = .ok (.aload_n 0, 1) := by decide +kernel
theorem dX1_changeEntry_35 : decode cX1_changeEntry 35 = .ok (.iconst 3, 1) := by decide +kernel
theorem dX1_changeEntry_36 : decode cX1_changeEntry 36 = .ok (.iload_n 1, 1) := by decide +kernel
theorem dX1_changeEntry_37 : decode cX1_changeEntry 37 = .ok (.iload_n 2, 1) := by decide +kernel
theorem dX1_changeEntry_38 : decode cX1_changeEntry 38 = .ok (.iconst 1, 1) := by decide +kernel
theorem dX1_changeEntry_39 : decode cX1_changeEntry 39 = .ok (.invokevirtual 71, 3) := by decide +kernel
theorem dX1_changeEntry_42 : decode cX1_changeEntry 42 = .ok (.aload_n 0, 1) := by decide +kernel
theorem dX1_changeEntry_43 : decode cX1_changeEntry 43 = .ok (.getfield 9, 3) := by decide +kernel
theorem dX1_changeEntry_46 : decode cX1_changeEntry 46 = .ok (.iload_n 1, 1) := by decide +kernel
theorem dX1_changeEntry_47 : decode cX1_changeEntry 47 = .ok (.iload_n 2, 1) := by decide +kernel
theorem dX1_changeEntry_48 : decode cX1_changeEntry 48 = .ok (.invokestatic 28, 3) := by decide +kernel
theorem dX1_changeEntry_51 : decode cX1_changeEntry 51 = .ok (.iload_n 3, 1) := by decide +kernel
theorem dX1_changeEntry_52 : decode cX1_changeEntry 52 = .ok (.iastore, 1) := by decide +kernel
theorem dX1_changeEntry_53 : decode cX1_changeEntry 53 = .ok (.return_, 1) := by decide +kernel
theorem dX1_cutBlock_0 : decode cX1_cutBlock 0 = .ok (.iload_n 1, 1) := by decide +kernel
theorem dX1_cutBlock_1 : decode cX1_cutBlock 1 = .ok (.iload_n 2, 1) := by decide +kernel
theorem dX1_cutBlock_2 : decode cX1_cutBlock 2 = .ok (.invokestatic 75, 3) := by decide +kernel
theorem dX1_cutBlock_5 : decode cX1_cutBlock 5 = .ok (.istore 4, 2) := by decide +kernel
theorem dX1_cutBlock_7 : decode cX1_cutBlock 7 = .ok (.iload_n 1, 1) := by decide +kernel
theorem dX1_cutBlock_8 : decode cX1_cutBlock 8 = .ok (.iload_n 3, 1) := by decide +kernel
theorem dX1_cutBlock_9 : decode cX1_cutBlock 9 = .ok (.invokestatic 75, 3) := by decide +kernel
theorem dX1_cutBlock_12 : decode cX1_cutBlock 12 = .ok (.istore 5, 2) := by decide +kernel
theorem dX1_cutBlock_14 : decode cX1_cutBlock 14 = .ok (.aload_n 0, 1) := by decide +kernel
theorem dX1_cutBlock_15 : decode cX1_cutBlock 15 = .ok (.iload_n 1, 1) := by decide +kernel
theorem dX1_cutBlock_16 : decode cX1_cutBlock 16 = .ok (.iload_n 2, 1) := by decide +kernel
theorem dX1_cutBlock_17 : decode cX1_cutBlock 17 = .ok (.iload_n 3, 1) := by decide +kernel
theorem dX1_cutBlock_18 : decode cX1_cutBlock 18 = .ok (.invokevirtual 36, 3) := by decide +kernel
theorem dX1_cutBlock_21 : decode cX1_cutBlock 21 = .ok (.istore 6, 2) := by decide +kernel
theorem dX1_cutBlock_23 : decode cX1_cutBlock 23 = .ok (.iconst 0, 1) := by decide +kernel
theorem dX1_cutBlock_24 : decode cX1_cutBlock 24 = .ok (.istore 7, 2) := by decide +kernel
theorem dX1_cutBlock_26 : decode cX1_cutBlock 26 = .ok (.iload 7, 2) := by decide +kernel
theorem dX1_cutBlock_28 : decode cX1_cutBlock 28 = .ok (.iconst 4, 1) := by decide +kernel
theorem dX1_cutBlock_29 : decode cX1_cutBlock 29 = .ok (.if_icmp .ge 34, 3) := by decide +kernel
theorem dX1_cutBlock_32 : decode cX1_cutBlock 32 = .ok (.aload_n 0, 1) := by decide +kernel
theorem dX1_cutBlock_33 : decode cX1_cutBlock 33 = .ok (.iload_n 1, 1) := by decide +kernel
theorem dX1_cutBlock_34 : decode cX1_cutBlock 34 = .ok (.iconst 1, 1) := by decide +kernel
theorem dX1_cutBlock_35 : decode cX1_cutBlock 35 = .ok (.iadd, 1) := by decide +kernel
theorem dX1_cutBlock_36 : decode cX1_cutBlock 36 = .ok (.iload_n 1, 1) := by decide +kernel
theorem dX1_cutBlock_37 : decode cX1_cutBlock 37 = .ok (.iload 4, 2) := by decide +kernel
theorem dX1_cutBlock_39 : decode cX1_cutBlock 39 = .ok (.iload 7, 2) := by decide +kernel
theorem dX1_cutBlock_41 : decode cX1_cutBlock 41 = .ok (.invokestatic 57, 3) := by decide +kernel
theorem dX1_cutBlock_44 : decode cX1_cutBlock 44 = .ok (.iload_n 1, 1) := by decide +kernel
theorem dX1_cutBlock_45 : decode cX1_cutBlock 45 = .ok (.iload 5, 2) := by decide +kernel
theorem dX1_cutBlock_47 : decode cX1_cutBlock 47 = .ok (.iload 7, 2) := by decide +kernel
theorem dX1_cutBlock_49 : decode cX1_cutBlock 49 = .ok (.invokestatic 60, 3) := by decide +kernel
theorem dX1_cutBlock_52 : decode cX1_cutBlock 52 = .ok (.iload 6, 2) := by decide +kernel
theorem dX1_cutBlock_54 : decode cX1_cutBlock 54 = .ok (.invokevirtual 71, 3) := by decide +kernel
theorem dX1_cutBlock_57 : decode cX1_cutBlock 57 = .ok (.iinc 7 1, 3) := by decide +kernel
theorem dX1_cutBlock_60 : decode cX1_cutBlock 60 = .ok (.goto (-34), 3) := by decide +kernel
theorem dX1_cutBlock_63 : decode cX1_cutBlock 63 = .ok (.aload_n 0, 1) := by decide +kernel
theorem dX1_cutBlock_64 : decode cX1_cutBlock 64 = .ok (.iload_n 1, 1) := by decide +kernel
theorem dX1_cutBlock_65 : decode cX1_cutBlock 65 = .ok (.iload_n 2, 1) := by decide +kernel
theorem dX1_cutBlock_66 : decode cX1_cutBlock 66 = .ok (.iload_n 3, 1) := by decide +kernel
theorem dX1_cutBlock_67 : decode cX1_cutBlock 67 = .ok (.iconst 3, 1) := by decide +kernel
theorem dX1_cutBlock_68 : decode cX1_cutBlock 68 = .ok (.invokevirtual 71, 3) := by decide +kernel
theorem dX1_cutBlock_71 : decode cX1_cutBlock 71 = .ok (.return_, 1) := by decide +kernel
theorem dX1_emptyBlockOf_0 : decode cX1_emptyBlockOf 0 = .ok (.aload_n 0, 1) := by decide +kernel
theorem dX1_emptyBlockOf_1 : decode cX1_emptyBlockOf 1 = .ok (.iload_n 1, 1) := by decide +kernel
theorem dX1_emptyBlockOf_2 : decode cX1_emptyBlockOf 2 = .ok (.iload_n 2, 1) := by decide +kernel
theorem dX1_emptyBlockOf_3 : decode cX1_emptyBlockOf 3 = .ok (.invokevirtual 43, 3) := by decide +kernel
theorem dX1_emptyBlockOf_6 : decode cX1_emptyBlockOf 6 = .ok (.istore_n 3, 1) := by decide +kernel
theorem dX1_emptyBlockOf_7 : decode cX1_emptyBlockOf 7 = .ok (.aload_n 0, 1) := by decide +kernel
theorem dX1_emptyBlockOf_8 : decode cX1_emptyBlockOf 8 = .ok (.iload_n 3, 1) := by decide +kernel
theorem dX1_emptyBlockOf_9 : decode cX1_emptyBlockOf 9 = .ok (.iload_n 3, 1) := by decide +kernel
theorem dX1_emptyBlockOf_10 : decode cX1_emptyBlockOf 10 = .ok (.iload_n 1, 1) := by decide +kernel
theorem dX1_emptyBlockOf_11 : decode cX1_emptyBlockOf 11 = .ok (.invokestatic 75, 3) := by decide +kernel
theorem dX1_emptyBlockOf_14 : decode cX1_emptyBlockOf 14 = .ok (.iload_n 3, 1) := by decide +kernel
theorem dX1_emptyBlockOf_15 : decode cX1_emptyBlockOf 15 = .ok (.iload_n 2, 1) := by decide +kernel
theorem dX1_emptyBlockOf_16 : decode cX1_emptyBlockOf 16 = .ok (.invokestatic 75, 3) := by decide +kernel
theorem dX1_emptyBlockOf_19 : decode cX1_emptyBlockOf 19 = .ok (.invokevirtual 78, 3) := by decide +kernel
theorem dX1_emptyBlockOf_22 : decode cX1_emptyBlockOf 22 = .ok (.iload_n 3, 1) := by decide +kernel
theorem dX1_emptyBlockOf_23 : decode cX1_emptyBlockOf 23 = .ok (.invokestatic 24, 3) := by decide +kernel
theorem dX1_emptyBlockOf_26 : decode cX1_emptyBlockOf 26 = .ok (.ireturn, 1) := by decide +kernel
theorem dX1_setEmpty_0 : decode cX1_setEmpty 0 = .ok (.aload_n 0, 1) := by decide +kernel
theorem dX1_setEmpty_1 : decode cX1_setEmpty 1 = .ok (.iload_n 1, 1) := by decide +kernel
theorem dX1_setEmpty_2 : decode cX1_setEmpty 2 = .ok (.iload_n 2, 1) := by decide +kernel
theorem dX1_setEmpty_3 : decode cX1_setEmpty 3 = .ok (.iload_n 3, 1) := by decide +kernel
theorem dX1_setEmpty_4 : decode cX1_setEmpty 4 = .ok (.iconst 0, 1) := by decide +kernel
theorem dX1_setEmpty_5 : decode cX1_setEmpty 5 = .ok (.invokevirtual 71, 3) := by decide +kernel
theorem dX1_setEmpty_8 : decode cX1_setEmpty 8 = .ok (.iload_n 1, 1) := by decide +kernel
theorem dX1_setEmpty_9 : decode cX1_setEmpty 9 = .ok (.invokestatic 24, 3) := by decide +kernel
theorem dX1_setEmpty_12 : decode cX1_setEmpty 12 = .ok (.istore 4, 2) := by decide +kernel
theorem dX1_setEmpty_14 : decode cX1_setEmpty 14 = .ok (.iconst 0, 1) := by decide +kernel
theorem dX1_setEmpty_15 : decode cX1_setEmpty 15 = .ok (.istore 5, 2) := by decide +kernel
theorem dX1_setEmpty_17 : decode cX1_setEmpty 17 = .ok (.iload 5, 2) := by decide +kernel
theorem dX1_setEmpty_19 : decode cX1_setEmpty 19 = .ok (.iload 4, 2) := by decide +kernel
theorem dX1_setEmpty_21 : decode cX1_setEmpty 21 = .ok (.if_icmp .ge 42, 3) := by decide +kernel
theorem dX1_setEmpty_24 : decode cX1_setEmpty 24 = .ok (.iconst 0, 1) := by decide +kernel
theorem dX1_setEmpty_25 : decode cX1_setEmpty 25 = .ok (.istore 6, 2) := by decide +kernel
theorem dX1_setEmpty_27 : decode cX1_setEmpty 27 = .ok (.iload 6, 2) := by decide +kernel
theorem dX1_setEmpty_29 : decode cX1_setEmpty 29 = .ok (.iload 4, 2) := by decide +kernel
theorem dX1_setEmpty_31 : decode cX1_setEmpty 31 = .ok (.if_icmp .ge 26, 3) := by decide +kernel
theorem dX1_setEmpty_34 : decode cX1_setEmpty 34 = .ok (.aload_n 0, 1) := by decide +kernel
theorem dX1_setEmpty_35 : decode cX1_setEmpty 35 = .ok (.getfield 9, 3) := by decide +kernel
theorem dX1_setEmpty_38 : decode cX1_setEmpty 38 = .ok (.iload_n 2, 1) := by decide +kernel
theorem dX1_setEmpty_39 : decode cX1_setEmpty 39 = .ok (.iload 5, 2) := by decide +kernel
theorem dX1_setEmpty_41 : decode cX1_setEmpty 41 = .ok (.iadd, 1) := by decide +kernel
theorem dX1_setEmpty_42 : decode cX1_setEmpty 42 = .ok (.iload_n 3, 1) := by decide +kernel
theorem dX1_setEmpty_43 : decode cX1_setEmpty 43 = .ok (.iload 6, 2) := by decide +kernel
theorem dX1_setEmpty_45 : decode cX1_setEmpty 45 = .ok (.iadd, 1) := by decide +kernel
theorem dX1_setEmpty_46 : decode cX1_setEmpty 46 = .ok (.invokestatic 28, 3) := by decide +kernel
theorem dX1_setEmpty_49 : decode cX1_setEmpty 49 = .ok (.iconst 0, 1) := by decide +kernel
theorem dX1_setEmpty_50 : decode cX1_setEmpty 50 = .ok (.iastore, 1) := by decide +kernel
theorem dX1_setEmpty_51 : decode cX1_setEmpty 51 = .ok (.iinc 6 1, 3) := by decide +kernel
theorem dX1_setEmpty_54 : decode cX1_setEmpty 54 = .ok (.goto (-27), 3) := by decide +kernel
theorem dX1_setEmpty_57 : decode cX1_setEmpty 57 = .ok (.iinc 5 1, 3) := by decide +kernel
theorem dX1_setEmpty_60 : decode cX1_setEmpty 60 = .ok (.goto (-43), 3) := by decide +kernel
theorem dX1_setEmpty_63 : decode cX1_setEmpty 63 = .ok (.return_, 1) := by decide +kernel
theorem dX1_setThin_0 : decode cX1_setThin 0 = .ok (.aload_n 0, 1) := by decide +kernel
theorem dX1_setThin_1 : decode cX1_setThin 1 = .ok (.iload_n 1, 1) := by decide +kernel
theorem dX1_setThin_2 : decode cX1_setThin 2 = .ok (.iload_n 2, 1) := by decide +kernel
theorem dX1_setThin_3 : decode cX1_setThin 3 = .ok (.iload_n 3, 1) := by decide +kernel
theorem dX1_setThin_4 : decode cX1_setThin 4 = .ok (.iconst 2, 1) := by decide +kernel
theorem dX1_setThin_5 : decode cX1_setThin 5 = .ok (.invokevirtual 71, 3) := by decide +kernel
theorem dX1_setThin_8 : decode cX1_setThin 8 = .ok (.iload_n 1, 1) := by decide +kernel
theorem dX1_setThin_9 : decode cX1_setThin 9 = .ok (.invokestatic 24, 3) := by decide +kernel
theorem dX1_setThin_12 : decode cX1_setThin 12 = .ok (.istore 6, 2) := by decide +kernel
theorem dX1_setThin_14 : decode cX1_setThin 14 = .ok (.iconst 0, 1) := by decide +kernel
theorem dX1_setThin_15 : decode cX1_setThin 15 = .ok (.istore 7, 2) := by decide +kernel
theorem dX1_setThin_17 : decode cX1_setThin 17 = .ok (.iload 7, 2) := by decide +kernel
theorem dX1_setThin_19 : decode cX1_setThin 19 = .ok (.iload 6, 2) := by decide +kernel
theorem dX1_setThin_21 : decode cX1_setThin 21 = .ok (.if_icmp .ge 68, 3) := by decide +kernel
theorem dX1_setThin_24 : decode cX1_setThin 24 = .ok (.iload 7, 2) := by decide +kernel
theorem dX1_setThin_26 : decode cX1_setThin 26 = .ok (.aload 4, 2) := by decide +kernel
theorem dX1_setThin_28 : decode cX1_setThin 28 = .ok (.arraylength, 1) := by decide +kernel
theorem dX1_setThin_29 : decode cX1_setThin 29 = .ok (.if_icmp .ge 60, 3) := by decide +kernel
theorem dX1_setThin_32 : decode cX1_setThin 32 = .ok (.iconst 0, 1) := by decide +kernel
theorem dX1_setThin_33 : decode cX1_setThin 33 = .ok (.istore 8, 2) := by decide +kernel
theorem dX1_setThin_35 : decode cX1_setThin 35 = .ok (.iload 8, 2) := by decide +kernel
theorem dX1_setThin_37 : decode cX1_setThin 37 = .ok (.iload 6, 2) := by decide +kernel
theorem dX1_setThin_39 : decode cX1_setThin 39 = .ok (.if_icmp .ge 44, 3) := by decide +kernel
theorem dX1_setThin_42 : decode cX1_setThin 42 = .ok (.iload 8, 2) := by decide +kernel
theorem dX1_setThin_44 : decode cX1_setThin 44 = .ok (.aload 5, 2) := by decide +kernel
theorem dX1_setThin_46 : decode cX1_setThin 46 = .ok (.arraylength, 1) := by decide +kernel
theorem dX1_setThin_47 : decode cX1_setThin 47 = .ok (.if_icmp .ge 36, 3) := by decide +kernel
theorem dX1_setThin_50 : decode cX1_setThin 50 = .ok (.aload_n 0, 1) := by decide +kernel
theorem dX1_setThin_51 : decode cX1_setThin 51 = .ok (.getfield 9, 3) := by decide +kernel
theorem dX1_setThin_54 : decode cX1_setThin 54 = .ok (.iload_n 2, 1) := by decide +kernel
theorem dX1_setThin_55 : decode cX1_setThin 55 = .ok (.iload 7, 2) := by decide +kernel
theorem dX1_setThin_57 : decode cX1_setThin 57 = .ok (.iadd, 1) := by decide +kernel
theorem dX1_setThin_58 : decode cX1_setThin 58 = .ok (.iload_n 3, 1) := by decide +kernel
theorem dX1_setThin_59 : decode cX1_setThin 59 = .ok (.iload 8, 2) := by decide +kernel
theorem dX1_setThin_61 : decode cX1_setThin 61 = .ok (.iadd, 1) := by decide +kernel
theorem dX1_setThin_62 : decode cX1_setThin 62 = .ok (.invokestatic 28, 3) := by decide +kernel
theorem dX1_setThin_65 : decode cX1_setThin 65 = .ok (.aload 4, 2) := by decide +kernel
theorem dX1_setThin_67 : decode cX1_setThin 67 = .ok (.iload 7, 2) := by decide +kernel
theorem dX1_setThin_69 : decode cX1_setThin 69 = .ok (.iaload, 1) := by decide +kernel
theorem dX1_setThin_70 : decode cX1_setThin 70 = .ok (.aload 5, 2) := by decide +kernel
theorem dX1_setThin_72 : decode cX1_setThin 72 = .ok (.iload 8, 2) := by decide +kernel
theorem dX1_setThin_74 : decode cX1_setThin 74 = .ok (.iaload, 1) := by decide +kernel
theorem dX1_setThin_75 : decode cX1_setThin 75 = .ok (.imul, 1) := by decide +kernel
theorem dX1_setThin_76 : decode cX1_setThin 76 = .ok (.iastore, 1) := by decide +kernel
theorem dX1_setThin_77 : decode cX1_setThin 77 = .ok (.iinc 8 1, 3) := by decide +kernel
theorem dX1_setThin_80 : decode cX1_setThin 80 = .ok (.goto (-45), 3) := by decide +kernel
theorem dX1_setThin_83 : decode cX1_setThin 83 = .ok (.iinc 7 1, 3) := by decide +kernel
theorem dX1_setThin_86 : decode cX1_setThin 86 = .ok (.goto (-69), 3) := by decide +kernel
theorem dX1_setThin_89 : decode cX1_setThin 89 = .ok (.return_, 1) := by decide +kernel
theorem dX1_setFull_0 : decode cX1_setFull 0 = .ok (.aload_n 0, 1) := by decide +kernel
theorem dX1_setFull_1 : decode cX1_setFull 1 = .ok (.iload_n 1, 1) := by decide +kernel
theorem dX1_setFull_2 : decode cX1_setFull 2 = .ok (.iload_n 2, 1) := by decide +kernel
theorem dX1_setFull_3 : decode cX1_setFull 3 = .ok (.iload_n 3, 1) := by decide +kernel
theorem dX1_setFull_4 : decode cX1_setFull 4 = .ok (.iconst 1, 1) := by decide +kernel
theorem dX1_setFull_5 : decode cX1_setFull 5 = .ok (.invokevirtual 71, 3) := by decide +kernel
theorem dX1_setFull_8 : decode cX1_setFull 8 = .ok (.iload_n 1, 1) := by decide +kernel
theorem dX1_setFull_9 : decode cX1_setFull 9 = .ok (.invokestatic 24, 3) := by decide +kernel
theorem dX1_setFull_12 : decode cX1_setFull 12 = .ok (.istore 5, 2) := by decide +kernel
theorem dX1_setFull_14 : decode cX1_setFull 14 = .ok (.iconst 0, 1) := by decide +kernel
theorem dX1_setFull_15 : decode cX1_setFull 15 = .ok (.istore 6, 2) := by decide +kernel
theorem dX1_setFull_17 : decode cX1_setFull 17 = .ok (.iload 6, 2) := by decide +kernel
theorem dX1_setFull_19 : decode cX1_setFull 19 = .ok (.iload 5, 2) := by decide +kernel
theorem dX1_setFull_21 : decode cX1_setFull 21 = .ok (.if_icmp .ge 66, 3) := by decide +kernel
theorem dX1_setFull_24 : decode cX1_setFull 24 = .ok (.iconst 0, 1) := by decide +kernel
theorem dX1_setFull_25 : decode cX1_setFull 25 = .ok (.istore 7, 2) := by decide +kernel
theorem dX1_setFull_27 : decode cX1_setFull 27 = .ok (.iload 7, 2) := by decide +kernel
theorem dX1_setFull_29 : decode cX1_setFull 29 = .ok (.iload 5, 2) := by decide +kernel
theorem dX1_setFull_31 : decode cX1_setFull 31 = .ok (.if_icmp .ge 50, 3) := by decide +kernel
theorem dX1_setFull_34 : decode cX1_setFull 34 = .ok (.iload 6, 2) := by decide +kernel
theorem dX1_setFull_36 : decode cX1_setFull 36 = .ok (.iload 5, 2) := by decide +kernel
theorem dX1_setFull_38 : decode cX1_setFull 38 = .ok (.imul, 1) := by decide +kernel
theorem dX1_setFull_39 : decode cX1_setFull 39 = .ok (.iload 7, 2) := by decide +kernel
theorem dX1_setFull_41 : decode cX1_setFull 41 = .ok (.iadd, 1) := by decide +kernel
theorem dX1_setFull_42 : decode cX1_setFull 42 = .ok (.aload 4, 2) := by decide +kernel
theorem dX1_setFull_44 : decode cX1_setFull 44 = .ok (.arraylength, 1) := by decide +kernel
theorem dX1_setFull_45 : decode cX1_setFull 45 = .ok (.if_icmp .ge 36, 3) := by decide +kernel
theorem dX1_setFull_48 : decode cX1_setFull 48 = .ok (.aload_n 0, 1) := by decide +kernel
theorem dX1_setFull_49 : decode cX1_setFull 49 = .ok (.getfield 9, 3) := by decide +kernel
theorem dX1_setFull_52 : decode cX1_setFull 52 = .ok (.iload_n 2, 1) := by decide +kernel
theorem dX1_setFull_53 : decode cX1_setFull 53 = .ok (.iload 6, 2) := by decide +kernel
theorem dX1_setFull_55 : decode cX1_setFull 55 = .ok (.iadd, 1) := by decide +kernel
theorem dX1_setFull_56 : decode cX1_setFull 56 = .ok (.iload_n 3, 1) := by decide +kernel
theorem dX1_setFull_57 : decode cX1_setFull 57 = .ok (.iload 7, 2) := by decide +kernel
theorem dX1_setFull_59 : decode cX1_setFull 59 = .ok (.iadd, 1) := by decide +kernel
theorem dX1_setFull_60 : decode cX1_setFull 60 = .ok (.invokestatic 28, 3) := by decide +kernel
theorem dX1_setFull_63 : decode cX1_setFull 63 = .ok (.aload 4, 2) := by decide +kernel
theorem dX1_setFull_65 : decode cX1_setFull 65 = .ok (.iload 6, 2) := by decide +kernel
theorem dX1_setFull_67 : decode cX1_setFull 67 = .ok (.iload 5, 2) := by decide +kernel
theorem dX1_setFull_69 : decode cX1_setFull 69 = .ok (.imul, 1) := by decide +kernel
theorem dX1_setFull_70 : decode cX1_setFull 70 = .ok (.iload 7, 2) := by decide +kernel
theorem dX1_setFull_72 : decode cX1_setFull 72 = .ok (.iadd, 1) := by decide +kernel
theorem dX1_setFull_73 : decode cX1_setFull 73 = .ok (.iaload, 1) := by decide +kernel
theorem dX1_setFull_74 : decode cX1_setFull 74 = .ok (.iastore, 1) := by decide +kernel
theorem dX1_setFull_75 : decode cX1_setFull 75 = .ok (.iinc 7 1, 3) := by decide +kernel
theorem dX1_setFull_78 : decode cX1_setFull 78 = .ok (.goto (-51), 3) := by decide +kernel
theorem dX1_setFull_81 : decode cX1_setFull 81 = .ok (.iinc 6 1, 3) := by decide +kernel
theorem dX1_setFull_84 : decode cX1_setFull 84 = .ok (.goto (-67), 3) := by decide +kernel
theorem dX1_setFull_87 : decode cX1_setFull 87 = .ok (.return_, 1) := by decide +kernel
theorem dX1_makeSmaller_0 : decode cX1_makeSmaller 0 = .ok (.aload_n 0, 1) := by decide +kernel
theorem dX1_makeSmaller_1 : decode cX1_makeSmaller 1 = .ok (.iconst 0, 1) := by decide +kernel
theorem dX1_makeSmaller_2 : decode cX1_makeSmaller 2 = .ok (.iconst 0, 1) := by decide +kernel
theorem dX1_makeSmaller_3 : decode cX1_makeSmaller 3 = .ok (.iconst 0, 1) := by decide +kernel
theorem dX1_makeSmaller_4 : decode cX1_makeSmaller 4 = .ok (.invokevirtual 81, 3) := by decide +kernel
theorem dX1_makeSmaller_7 : decode cX1_makeSmaller 7 = .ok (.ireturn, 1) := by decide +kernel
theorem dX1_makeSmallerFrom_0 : decode cX1_makeSmallerFrom 0 = .ok (.aload_n 0, 1) := by decide +kernel
theorem dX1_makeSmallerFrom_1 : decode cX1_makeSmallerFrom 1 = .ok (.iload_n 1, 1) := by decide +kernel
theorem dX1_makeSmallerFrom_2 : decode cX1_makeSmallerFrom 2 = .ok (.iload_n 2, 1) := by decide +kernel
theorem dX1_makeSmallerFrom_3 : decode cX1_makeSmallerFrom 3 = .ok (.iload_n 3, 1) := by decide +kernel
theorem dX1_makeSmallerFrom_4 : decode cX1_makeSmallerFrom 4 = .ok (.invokevirtual 39, 3) := by decide +kernel
theorem dX1_makeSmallerFrom_7 : decode cX1_makeSmallerFrom 7 = .ok (.ifCond .eq 13, 3) := by decide +kernel
theorem dX1_makeSmallerFrom_10 : decode cX1_makeSmallerFrom 10 = .ok (.aload_n 0, 1) := by decide +kernel
theorem dX1_makeSmallerFrom_11 : decode cX1_makeSmallerFrom 11 = .ok (.iload_n 1, 1) := by decide +kernel
theorem dX1_makeSmallerFrom_12 : decode cX1_makeSmallerFrom 12 = .ok (.iload_n 2, 1) := by decide +kernel
theorem dX1_makeSmallerFrom_13 : decode cX1_makeSmallerFrom 13 = .ok (.iload_n 3, 1) := by decide +kernel
theorem dX1_makeSmallerFrom_14 : decode cX1_makeSmallerFrom 14 = .ok (.invokevirtual 84, 3) := by decide +kernel
theorem dX1_makeSmallerFrom_17 : decode cX1_makeSmallerFrom 17 = .ok (.goto 17, 3) := by decide +kernel
theorem dX1_makeSmallerFrom_20 : decode cX1_makeSmallerFrom 20 = .ok (.aload_n 0, 1) := by decide +kernel
theorem dX1_makeSmallerFrom_21 : decode cX1_makeSmallerFrom 21 = .ok (.iload_n 1, 1) := by decide +kernel
theorem dX1_makeSmallerFrom_22 : decode cX1_makeSmallerFrom 22 = .ok (.iload_n 2, 1) := by decide +kernel
theorem dX1_makeSmallerFrom_23 : decode cX1_makeSmallerFrom 23 = .ok (.iload_n 3, 1) := by decide +kernel
theorem dX1_makeSmallerFrom_24 : decode cX1_makeSmallerFrom 24 = .ok (.invokevirtual 36, 3) := by decide +kernel
theorem dX1_makeSmallerFrom_27 : decode cX1_makeSmallerFrom 27 = .ok (.iload_n 1, 1) := by decide +kernel
theorem dX1_makeSmallerFrom_28 : decode cX1_makeSmallerFrom 28 = .ok (.invokestatic 24, 3) := by decide +kernel
theorem dX1_makeSmallerFrom_31 : decode cX1_makeSmallerFrom 31 = .ok (.invokestatic 54, 3) := by decide +kernel
theorem dX1_makeSmallerFrom_34 : decode cX1_makeSmallerFrom 34 = .ok (.istore 4, 2) := by decide +kernel
theorem dX1_makeSmallerFrom_36 : decode cX1_makeSmallerFrom 36 = .ok (.iload_n 1, 1) := by decide +kernel
theorem dX1_makeSmallerFrom_37 : decode cX1_makeSmallerFrom 37 = .ok (.invokestatic 24, 3) := by decide +kernel
theorem dX1_makeSmallerFrom_40 : decode cX1_makeSmallerFrom 40 = .ok (.istore 5, 2) := by decide +kernel
theorem dX1_makeSmallerFrom_42 : decode cX1_makeSmallerFrom 42 = .ok (.aload_n 0, 1) := by decide +kernel
theorem dX1_makeSmallerFrom_43 : decode cX1_makeSmallerFrom 43 = .ok (.iload_n 2, 1) := by decide +kernel
theorem dX1_makeSmallerFrom_44 : decode cX1_makeSmallerFrom 44 = .ok (.iload_n 3, 1) := by decide +kernel
theorem dX1_makeSmallerFrom_45 : decode cX1_makeSmallerFrom 45 = .ok (.iload 5, 2) := by decide +kernel
theorem dX1_makeSmallerFrom_47 : decode cX1_makeSmallerFrom 47 = .ok (.invokevirtual 87, 3) := by decide +kernel
theorem dX1_makeSmallerFrom_50 : decode cX1_makeSmallerFrom 50 = .ok (.istore 6, 2) := by decide +kernel
theorem dX1_makeSmallerFrom_52 : decode cX1_makeSmallerFrom 52 = .ok (.iload 6, 2) := by decide +kernel
theorem dX1_makeSmallerFrom_54 : decode cX1_makeSmallerFrom 54 = .ok (.iconst 2, 1) := by decide +kernel
theorem dX1_makeSmallerFrom_55 : decode cX1_makeSmallerFrom 55 = .ok (.if_icmp .ne 13, 3) := by decide +kernel
theorem dX1_makeSmallerFrom_58 : decode cX1_makeSmallerFrom 58 = .ok (.aload_n 0, 1) := by decide +kernel
theorem dX1_makeSmallerFrom_59 : decode cX1_makeSmallerFrom 59 = .ok (.iload_n 1, 1) := by decide +kernel
theorem dX1_makeSmallerFrom_60 : decode cX1_makeSmallerFrom 60 = .ok (.iload_n 2, 1) := by decide +kernel
theorem dX1_makeSmallerFrom_61 : decode cX1_makeSmallerFrom 61 = .ok (.iload_n 3, 1) := by decide +kernel
theorem dX1_makeSmallerFrom_62 : decode cX1_makeSmallerFrom 62 = .ok (.iconst 0, 1) := by decide +kernel
theorem dX1_makeSmallerFrom_63 : decode cX1_makeSmallerFrom 63 = .ok (.invokevirtual 71, 3) := by decide +kernel
theorem dX1_makeSmallerFrom_66 : decode cX1_makeSmallerFrom 66 = .ok (.iconst 0, 1) := by decide +kernel
theorem dX1_makeSmallerFrom_67 : decode cX1_makeSmallerFrom 67 = .ok (.ireturn, 1) := by decide +kernel
theorem dX1_makeSmallerFrom_68 : decode cX1_makeSmallerFrom 68 = .ok (.iload 6, 2) := by decide +kernel
theorem dX1_makeSmallerFrom_70 : decode cX1_makeSmallerFrom 70 = .ok (.iconst 1, 1) := by decide +kernel
theorem dX1_makeSmallerFrom_71 : decode cX1_makeSmallerFrom 71 = .ok (.if_icmp .ne 25, 3) := by decide +kernel
theorem dX1_makeSmallerFrom_74 : decode cX1_makeSmallerFrom 74 = .ok (.iconst 2, 1) := by decide +kernel
theorem dX1_makeSmallerFrom_75 : decode cX1_makeSmallerFrom 75 = .ok (.iload 5, 2) := by decide +kernel
theorem dX1_makeSmallerFrom_77 : decode cX1_makeSmallerFrom 77 = .ok (.imul, 1) := by decide +kernel
theorem dX1_makeSmallerFrom_78 : decode cX1_makeSmallerFrom 78 = .ok (.iload 4, 2) := by decide +kernel
theorem dX1_makeSmallerFrom_80 : decode cX1_makeSmallerFrom 80 = .ok (.if_icmp .gt 16, 3) := by decide +kernel
theorem dX1_makeSmallerFrom_83 : decode cX1_makeSmallerFrom 83 = .ok (.aload_n 0, 1) := by decide +kernel
theorem dX1_makeSmallerFrom_84 : decode cX1_makeSmallerFrom 84 = .ok (.iload_n 1, 1) := by decide +kernel
theorem dX1_makeSmallerFrom_85 : decode cX1_makeSmallerFrom 85 = .ok (.iload_n 2, 1) := by decide +kernel
theorem dX1_makeSmallerFrom_86 : decode cX1_makeSmallerFrom 86 = .ok (.iload_n 3, 1) := by decide +kernel
theorem dX1_makeSmallerFrom_87 : decode cX1_makeSmallerFrom 87 = .ok (.iconst 2, 1) := by decide +kernel
theorem dX1_makeSmallerFrom_88 : decode cX1_makeSmallerFrom 88 = .ok (.invokevirtual 71, 3) := by decide +kernel
theorem dX1_makeSmallerFrom_91 : decode cX1_makeSmallerFrom 91 = .ok (.iconst 2, 1) := by decide +kernel
theorem dX1_makeSmallerFrom_92 : decode cX1_makeSmallerFrom 92 = .ok (.iload 5, 2) := by decide +kernel
theorem dX1_makeSmallerFrom_94 : decode cX1_makeSmallerFrom 94 = .ok (.imul, 1) := by decide +kernel
theorem dX1_makeSmallerFrom_95 : decode cX1_makeSmallerFrom 95 = .ok (.ireturn, 1) := by decide +kernel
theorem dX1_makeSmallerFrom_96 : decode cX1_makeSmallerFrom 96 = .ok (.iload 4, 2) := by decide +kernel
theorem dX1_makeSmallerFrom_98 : decode cX1_makeSmallerFrom 98 = .ok (.ireturn, 1) := by decide +kernel
theorem dX1_makePartsSmaller_0 : decode cX1_makePartsSmaller 0 = .ok (.iconst 1, 1) := by decide +kernel
theorem dX1_makePartsSmaller_1 : decode cX1_makePartsSmaller 1 = .ok (.istore 4, 2) := by decide +kernel
theorem dX1_makePartsSmaller_3 : decode cX1_makePartsSmaller 3 = .ok (.iconst 0, 1) := by decide +kernel
theorem dX1_makePartsSmaller_4 : decode cX1_makePartsSmaller 4 = .ok (.istore 5, 2) := by decide +kernel
theorem dX1_makePartsSmaller_6 : decode cX1_makePartsSmaller 6 = .ok (.iload 5, 2) := by decide +kernel
theorem dX1_makePartsSmaller_8 : decode cX1_makePartsSmaller 8 = .ok (.iconst 4, 1) := by decide +kernel
theorem dX1_makePartsSmaller_9 : decode cX1_makePartsSmaller 9 = .ok (.if_icmp .ge 35, 3) := by decide +kernel
theorem dX1_makePartsSmaller_12 : decode cX1_makePartsSmaller 12 = .ok (.iload 4, 2) := by decide +kernel
theorem dX1_makePartsSmaller_14 : decode cX1_makePartsSmaller 14 = .ok (.aload_n 0, 1) := by decide +kernel
theorem dX1_makePartsSmaller_15 : decode cX1_makePartsSmaller 15 = .ok (.iload_n 1, 1) := by decide +kernel
theorem dX1_makePartsSmaller_16 : decode cX1_makePartsSmaller 16 = .ok (.iconst 1, 1) := by decide +kernel
theorem dX1_makePartsSmaller_17 : decode cX1_makePartsSmaller 17 = .ok (.iadd, 1) := by decide +kernel
theorem dX1_makePartsSmaller_18 : decode cX1_makePartsSmaller 18 = .ok (.iload_n 1, 1) := by decide +kernel
theorem dX1_makePartsSmaller_19 : decode cX1_makePartsSmaller 19 = .ok (.iload_n 2, 1) := by decide +kernel
theorem dX1_makePartsSmaller_20 : decode cX1_makePartsSmaller 20 = .ok (.iload 5, 2) := by decide +kernel
theorem dX1_makePartsSmaller_22 : decode cX1_makePartsSmaller 22 = .ok (.invokestatic 57, 3) := by decide +kernel
theorem dX1_makePartsSmaller_25 : decode cX1_makePartsSmaller 25 = .ok (.iload_n 1, 1) := by decide +kernel
theorem dX1_makePartsSmaller_26 : decode cX1_makePartsSmaller 26 = .ok (.iload_n 3, 1) := by decide +kernel
theorem dX1_makePartsSmaller_27 : decode cX1_makePartsSmaller 27 = .ok (.iload 5, 2) := by decide +kernel
theorem dX1_makePartsSmaller_29 : decode cX1_makePartsSmaller 29 = .ok (.invokestatic 60, 3) := by decide +kernel
theorem dX1_makePartsSmaller_32 : decode cX1_makePartsSmaller 32 = .ok (.invokevirtual 81, 3) := by decide +kernel
theorem dX1_makePartsSmaller_35 : decode cX1_makePartsSmaller 35 = .ok (.iadd, 1) := by decide +kernel
theorem dX1_makePartsSmaller_36 : decode cX1_makePartsSmaller 36 = .ok (.istore 4, 2) := by decide +kernel
theorem dX1_makePartsSmaller_38 : decode cX1_makePartsSmaller 38 = .ok (.iinc 5 1, 3) := by decide +kernel
theorem dX1_makePartsSmaller_41 : decode cX1_makePartsSmaller 41 = .ok (.goto (-35), 3) := by decide +kernel
theorem dX1_makePartsSmaller_44 : decode cX1_makePartsSmaller 44 = .ok (.iload 4, 2) := by decide +kernel
theorem dX1_makePartsSmaller_46 : decode cX1_makePartsSmaller 46 = .ok (.ireturn, 1) := by decide +kernel
theorem dX1_toldByOne_0 : decode cX1_toldByOne 0 = .ok (.aload_n 0, 1) := by decide +kernel
theorem dX1_toldByOne_1 : decode cX1_toldByOne 1 = .ok (.iload_n 1, 1) := by decide +kernel
theorem dX1_toldByOne_2 : decode cX1_toldByOne 2 = .ok (.iload_n 2, 1) := by decide +kernel
theorem dX1_toldByOne_3 : decode cX1_toldByOne 3 = .ok (.iload_n 3, 1) := by decide +kernel
theorem dX1_toldByOne_4 : decode cX1_toldByOne 4 = .ok (.invokevirtual 90, 3) := by decide +kernel
theorem dX1_toldByOne_7 : decode cX1_toldByOne 7 = .ok (.istore 4, 2) := by decide +kernel
theorem dX1_toldByOne_9 : decode cX1_toldByOne 9 = .ok (.aload_n 0, 1) := by decide +kernel
theorem dX1_toldByOne_10 : decode cX1_toldByOne 10 = .ok (.iload_n 1, 1) := by decide +kernel
theorem dX1_toldByOne_11 : decode cX1_toldByOne 11 = .ok (.iload_n 2, 1) := by decide +kernel
theorem dX1_toldByOne_12 : decode cX1_toldByOne 12 = .ok (.iload_n 3, 1) := by decide +kernel
theorem dX1_toldByOne_13 : decode cX1_toldByOne 13 = .ok (.invokevirtual 93, 3) := by decide +kernel
theorem dX1_toldByOne_16 : decode cX1_toldByOne 16 = .ok (.istore 5, 2) := by decide +kernel
theorem dX1_toldByOne_18 : decode cX1_toldByOne 18 = .ok (.iload 4, 2) := by decide +kernel
theorem dX1_toldByOne_20 : decode cX1_toldByOne 20 = .ok (.ifCond .lt 8, 3) := by decide +kernel
theorem dX1_toldByOne_23 : decode cX1_toldByOne 23 = .ok (.iload 5, 2) := by decide +kernel
theorem dX1_toldByOne_25 : decode cX1_toldByOne 25 = .ok (.ifCond .ge 5, 3) := by decide +kernel
theorem dX1_toldByOne_28 : decode cX1_toldByOne 28 = .ok (.iconst 2, 1) := by decide +kernel
theorem dX1_toldByOne_29 : decode cX1_toldByOne 29 = .ok (.ireturn, 1) := by decide +kernel
theorem dX1_toldByOne_30 : decode cX1_toldByOne 30 = .ok (.aload_n 0, 1) := by decide +kernel
theorem dX1_toldByOne_31 : decode cX1_toldByOne 31 = .ok (.iload 4, 2) := by decide +kernel
theorem dX1_toldByOne_33 : decode cX1_toldByOne 33 = .ok (.iload 5, 2) := by decide +kernel
theorem dX1_toldByOne_35 : decode cX1_toldByOne 35 = .ok (.invokevirtual 96, 3) := by decide +kernel
theorem dX1_toldByOne_38 : decode cX1_toldByOne 38 = .ok (.i2l, 1) := by decide +kernel
theorem dX1_toldByOne_39 : decode cX1_toldByOne 39 = .ok (.lstore 6, 2) := by decide +kernel
theorem dX1_toldByOne_41 : decode cX1_toldByOne 41 = .ok (.iload_n 1, 1) := by decide +kernel
theorem dX1_toldByOne_42 : decode cX1_toldByOne 42 = .ok (.istore 8, 2) := by decide +kernel
theorem dX1_toldByOne_44 : decode cX1_toldByOne 44 = .ok (.iload 8, 2) := by decide +kernel
theorem dX1_toldByOne_46 : decode cX1_toldByOne 46 = .ok (.iload_n 1, 1) := by decide +kernel
theorem dX1_toldByOne_47 : decode cX1_toldByOne 47 = .ok (.iload_n 3, 1) := by decide +kernel
theorem dX1_toldByOne_48 : decode cX1_toldByOne 48 = .ok (.iadd, 1) := by decide +kernel
theorem dX1_toldByOne_49 : decode cX1_toldByOne 49 = .ok (.if_icmp .ge 63, 3) := by decide +kernel
theorem dX1_toldByOne_52 : decode cX1_toldByOne 52 = .ok (.iload_n 2, 1) := by decide +kernel
theorem dX1_toldByOne_53 : decode cX1_toldByOne 53 = .ok (.istore 9, 2) := by decide +kernel
theorem dX1_toldByOne_55 : decode cX1_toldByOne 55 = .ok (.iload 9, 2) := by decide +kernel
theorem dX1_toldByOne_57 : decode cX1_toldByOne 57 = .ok (.iload_n 2, 1) := by decide +kernel
theorem dX1_toldByOne_58 : decode cX1_toldByOne 58 = .ok (.iload_n 3, 1) := by decide +kernel
theorem dX1_toldByOne_59 : decode cX1_toldByOne 59 = .ok (.iadd, 1) := by decide +kernel
theorem dX1_toldByOne_60 : decode cX1_toldByOne 60 = .ok (.if_icmp .ge 46, 3) := by decide +kernel
theorem dX1_toldByOne_63 : decode cX1_toldByOne 63 = .ok (.aload_n 0, 1) := by decide +kernel
theorem dX1_toldByOne_64 : decode cX1_toldByOne 64 = .ok (.iload 8, 2) := by decide +kernel
theorem dX1_toldByOne_66 : decode cX1_toldByOne 66 = .ok (.iload 9, 2) := by decide +kernel
theorem dX1_toldByOne_68 : decode cX1_toldByOne 68 = .ok (.invokevirtual 96, 3) := by decide +kernel
theorem dX1_toldByOne_71 : decode cX1_toldByOne 71 = .ok (.i2l, 1) := by decide +kernel
theorem dX1_toldByOne_72 : decode cX1_toldByOne 72 = .ok (.lload 6, 2) := by decide +kernel
theorem dX1_toldByOne_74 : decode cX1_toldByOne 74 = .ok (.lmul, 1) := by decide +kernel
theorem dX1_toldByOne_75 : decode cX1_toldByOne 75 = .ok (.aload_n 0, 1) := by decide +kernel
theorem dX1_toldByOne_76 : decode cX1_toldByOne 76 = .ok (.iload 8, 2) := by decide +kernel
theorem dX1_toldByOne_78 : decode cX1_toldByOne 78 = .ok (.iload 5, 2) := by decide +kernel
theorem dX1_toldByOne_80 : decode cX1_toldByOne 80 = .ok (.invokevirtual 96, 3) := by decide +kernel
theorem dX1_toldByOne_83 : decode cX1_toldByOne 83 = .ok (.i2l, 1) := by decide +kernel
theorem dX1_toldByOne_84 : decode cX1_toldByOne 84 = .ok (.aload_n 0, 1) := by decide +kernel
theorem dX1_toldByOne_85 : decode cX1_toldByOne 85 = .ok (.iload 4, 2) := by decide +kernel
theorem dX1_toldByOne_87 : decode cX1_toldByOne 87 = .ok (.iload 9, 2) := by decide +kernel
theorem dX1_toldByOne_89 : decode cX1_toldByOne 89 = .ok (.invokevirtual 96, 3) := by decide +kernel
theorem dX1_toldByOne_92 : decode cX1_toldByOne 92 = .ok (.i2l, 1) := by decide +kernel
theorem dX1_toldByOne_93 : decode cX1_toldByOne 93 = .ok (.lmul, 1) := by decide +kernel
theorem dX1_toldByOne_94 : decode cX1_toldByOne 94 = .ok (.lcmp, 1) := by decide +kernel
theorem dX1_toldByOne_95 : decode cX1_toldByOne 95 = .ok (.ifCond .eq 5, 3) := by decide +kernel
theorem dX1_toldByOne_98 : decode cX1_toldByOne 98 = .ok (.iconst 0, 1) := by decide +kernel
theorem dX1_toldByOne_99 : decode cX1_toldByOne 99 = .ok (.ireturn, 1) := by decide +kernel
theorem dX1_toldByOne_100 : decode cX1_toldByOne 100 = .ok (.iinc 9 1, 3) := by decide +kernel
theorem dX1_toldByOne_103 : decode cX1_toldByOne 103 = .ok (.goto (-48), 3) := by decide +kernel
theorem dX1_toldByOne_106 : decode cX1_toldByOne 106 = .ok (.iinc 8 1, 3) := by decide +kernel
theorem dX1_toldByOne_109 : decode cX1_toldByOne 109 = .ok (.goto (-65), 3) := by decide +kernel
theorem dX1_toldByOne_112 : decode cX1_toldByOne 112 = .ok (.iconst 1, 1) := by decide +kernel
theorem dX1_toldByOne_113 : decode cX1_toldByOne 113 = .ok (.ireturn, 1) := by decide +kernel
theorem dX1_firstFilledRow_0 : decode cX1_firstFilledRow 0 = .ok (.iload_n 1, 1) := by decide +kernel
theorem dX1_firstFilledRow_1 : decode cX1_firstFilledRow 1 = .ok (.istore 4, 2) := by decide +kernel
theorem dX1_firstFilledRow_3 : decode cX1_firstFilledRow 3 = .ok (.iload 4, 2) := by decide +kernel
theorem dX1_firstFilledRow_5 : decode cX1_firstFilledRow 5 = .ok (.iload_n 1, 1) := by decide +kernel
theorem dX1_firstFilledRow_6 : decode cX1_firstFilledRow 6 = .ok (.iload_n 3, 1) := by decide +kernel
theorem dX1_firstFilledRow_7 : decode cX1_firstFilledRow 7 = .ok (.iadd, 1) := by decide +kernel
theorem dX1_firstFilledRow_8 : decode cX1_firstFilledRow 8 = .ok (.if_icmp .ge 44, 3) := by decide +kernel
theorem dX1_firstFilledRow_11 : decode cX1_firstFilledRow 11 = .ok (.iload_n 2, 1) := by decide +kernel
theorem dX1_firstFilledRow_12 : decode cX1_firstFilledRow 12 = .ok (.istore 5, 2) := by decide +kernel
theorem dX1_firstFilledRow_14 : decode cX1_firstFilledRow 14 = .ok (.iload 5, 2) := by decide +kernel
theorem dX1_firstFilledRow_16 : decode cX1_firstFilledRow 16 = .ok (.iload_n 2, 1) := by decide +kernel
theorem dX1_firstFilledRow_17 : decode cX1_firstFilledRow 17 = .ok (.iload_n 3, 1) := by decide +kernel
theorem dX1_firstFilledRow_18 : decode cX1_firstFilledRow 18 = .ok (.iadd, 1) := by decide +kernel
theorem dX1_firstFilledRow_19 : decode cX1_firstFilledRow 19 = .ok (.if_icmp .ge 27, 3) := by decide +kernel
theorem dX1_firstFilledRow_22 : decode cX1_firstFilledRow 22 = .ok (.aload_n 0, 1) := by decide +kernel
theorem dX1_firstFilledRow_23 : decode cX1_firstFilledRow 23 = .ok (.getfield 9, 3) := by decide +kernel
theorem dX1_firstFilledRow_26 : decode cX1_firstFilledRow 26 = .ok (.iload 4, 2) := by decide +kernel
theorem dX1_firstFilledRow_28 : decode cX1_firstFilledRow 28 = .ok (.iload 5, 2) := by decide +kernel
theorem dX1_firstFilledRow_30 : decode cX1_firstFilledRow 30 = .ok (.invokestatic 28, 3) := by decide +kernel
theorem dX1_firstFilledRow_33 : decode cX1_firstFilledRow 33 = .ok (.iaload, 1) := by decide +kernel
theorem dX1_firstFilledRow_34 : decode cX1_firstFilledRow 34 = .ok (.ifCond .eq 6, 3) := by decide +kernel
theorem dX1_firstFilledRow_37 : decode cX1_firstFilledRow 37 = .ok (.iload 4, 2) := by decide +kernel
theorem dX1_firstFilledRow_39 : decode cX1_firstFilledRow 39 = .ok (.ireturn, 1) := by decide +kernel
theorem dX1_firstFilledRow_40 : decode cX1_firstFilledRow 40 = .ok (.iinc 5 1, 3) := by decide +kernel
theorem dX1_firstFilledRow_43 : decode cX1_firstFilledRow 43 = .ok (.goto (-29), 3) := by decide +kernel
theorem dX1_firstFilledRow_46 : decode cX1_firstFilledRow 46 = .ok (.iinc 4 1, 3) := by decide +kernel
theorem dX1_firstFilledRow_49 : decode cX1_firstFilledRow 49 = .ok (.goto (-46), 3) := by decide +kernel
theorem dX1_firstFilledRow_52 : decode cX1_firstFilledRow 52 = .ok (.iconst (-1), 1) := by decide +kernel
theorem dX1_firstFilledRow_53 : decode cX1_firstFilledRow 53 = .ok (.ireturn, 1) := by decide +kernel
theorem dX1_firstFilledColumn_0 : decode cX1_firstFilledColumn 0 = .ok (.iload_n 2, 1) := by decide +kernel
theorem dX1_firstFilledColumn_1 : decode cX1_firstFilledColumn 1 = .ok (.istore 4, 2) := by decide +kernel
theorem dX1_firstFilledColumn_3 : decode cX1_firstFilledColumn 3 = .ok (.iload 4, 2) := by decide +kernel
theorem dX1_firstFilledColumn_5 : decode cX1_firstFilledColumn 5 = .ok (.iload_n 2, 1) := by decide +kernel
theorem dX1_firstFilledColumn_6 : decode cX1_firstFilledColumn 6 = .ok (.iload_n 3, 1) := by decide +kernel
theorem dX1_firstFilledColumn_7 : decode cX1_firstFilledColumn 7 = .ok (.iadd, 1) := by decide +kernel
theorem dX1_firstFilledColumn_8 : decode cX1_firstFilledColumn 8 = .ok (.if_icmp .ge 44, 3) := by decide +kernel
theorem dX1_firstFilledColumn_11 : decode cX1_firstFilledColumn 11 = .ok (.iload_n 1, 1) := by decide +kernel
theorem dX1_firstFilledColumn_12 : decode cX1_firstFilledColumn 12 = .ok (.istore 5, 2) := by decide +kernel
theorem dX1_firstFilledColumn_14 : decode cX1_firstFilledColumn 14 = .ok (.iload 5, 2) := by decide +kernel
theorem dX1_firstFilledColumn_16 : decode cX1_firstFilledColumn 16 = .ok (.iload_n 1, 1) := by decide +kernel
theorem dX1_firstFilledColumn_17 : decode cX1_firstFilledColumn 17 = .ok (.iload_n 3, 1) := by decide +kernel
theorem dX1_firstFilledColumn_18 : decode cX1_firstFilledColumn 18 = .ok (.iadd, 1) := by decide +kernel
theorem dX1_firstFilledColumn_19 : decode cX1_firstFilledColumn 19 = .ok (.if_icmp .ge 27, 3) := by decide +kernel
theorem dX1_firstFilledColumn_22 : decode cX1_firstFilledColumn 22 = .ok (.aload_n 0, 1) := by decide +kernel
theorem dX1_firstFilledColumn_23 : decode cX1_firstFilledColumn 23 = .ok (.getfield 9, 3) := by decide +kernel
theorem dX1_firstFilledColumn_26 : decode cX1_firstFilledColumn 26 = .ok (.iload 5, 2) := by decide +kernel
theorem dX1_firstFilledColumn_28 : decode cX1_firstFilledColumn 28 = .ok (.iload 4, 2) := by decide +kernel
theorem dX1_firstFilledColumn_30 : decode cX1_firstFilledColumn 30 = .ok (.invokestatic 28, 3) := by decide +kernel
theorem dX1_firstFilledColumn_33 : decode cX1_firstFilledColumn 33 = .ok (.iaload, 1) := by decide +kernel
theorem dX1_firstFilledColumn_34 : decode cX1_firstFilledColumn 34 = .ok (.ifCond .eq 6, 3) := by decide +kernel
theorem dX1_firstFilledColumn_37 : decode cX1_firstFilledColumn 37 = .ok (.iload 4, 2) := by decide +kernel
theorem dX1_firstFilledColumn_39 : decode cX1_firstFilledColumn 39 = .ok (.ireturn, 1) := by decide +kernel
theorem dX1_firstFilledColumn_40 : decode cX1_firstFilledColumn 40 = .ok (.iinc 5 1, 3) := by decide +kernel
theorem dX1_firstFilledColumn_43 : decode cX1_firstFilledColumn 43 = .ok (.goto (-29), 3) := by decide +kernel
theorem dX1_firstFilledColumn_46 : decode cX1_firstFilledColumn 46 = .ok (.iinc 4 1, 3) := by decide +kernel
theorem dX1_firstFilledColumn_49 : decode cX1_firstFilledColumn 49 = .ok (.goto (-46), 3) := by decide +kernel
theorem dX1_firstFilledColumn_52 : decode cX1_firstFilledColumn 52 = .ok (.iconst (-1), 1) := by decide +kernel
theorem dX1_firstFilledColumn_53 : decode cX1_firstFilledColumn 53 = .ok (.ireturn, 1) := by decide +kernel
theorem dX1_join_0 : decode cX1_join 0 = .ok (.aload_n 0, 1) := by decide +kernel
theorem dX1_join_1 : decode cX1_join 1 = .ok (.aload_n 1, 1) := by decide +kernel
theorem dX1_join_2 : decode cX1_join 2 = .ok (.iload_n 2, 1) := by decide +kernel
theorem dX1_join_3 : decode cX1_join 3 = .ok (.iconst 0, 1) := by decide +kernel
theorem dX1_join_4 : decode cX1_join 4 = .ok (.iconst 0, 1) := by decide +kernel
theorem dX1_join_5 : decode cX1_join 5 = .ok (.iconst 0, 1) := by decide +kernel
theorem dX1_join_6 : decode cX1_join 6 = .ok (.invokevirtual 99, 3) := by decide +kernel
theorem dX1_join_9 : decode cX1_join 9 = .ok (.return_, 1) := by decide +kernel
theorem dX1_joinFrom_0 : decode cX1_joinFrom 0 = .ok (.aload_n 1, 1) := by decide +kernel
theorem dX1_joinFrom_1 : decode cX1_joinFrom 1 = .ok (.iload_n 3, 1) := by decide +kernel
theorem dX1_joinFrom_2 : decode cX1_joinFrom 2 = .ok (.iload 4, 2) := by decide +kernel
theorem dX1_joinFrom_4 : decode cX1_joinFrom 4 = .ok (.iload 5, 2) := by decide +kernel
theorem dX1_joinFrom_6 : decode cX1_joinFrom 6 = .ok (.invokevirtual 36, 3) := by decide +kernel
theorem dX1_joinFrom_9 : decode cX1_joinFrom 9 = .ok (.ifCond .ne 4, 3) := by decide +kernel
theorem dX1_joinFrom_12 : decode cX1_joinFrom 12 = .ok (.return_, 1) := by decide +kernel
theorem dX1_joinFrom_13 : decode cX1_joinFrom 13 = .ok (.aload_n 0, 1) := by decide +kernel
theorem dX1_joinFrom_14 : decode cX1_joinFrom 14 = .ok (.iload_n 3, 1) := by decide +kernel
theorem dX1_joinFrom_15 : decode cX1_joinFrom 15 = .ok (.iload 4, 2) := by decide +kernel
theorem dX1_joinFrom_17 : decode cX1_joinFrom 17 = .ok (.iload 5, 2) := by decide +kernel
theorem dX1_joinFrom_19 : decode cX1_joinFrom 19 = .ok (.invokevirtual 39, 3) := by decide +kernel
theorem dX1_joinFrom_22 : decode cX1_joinFrom 22 = .ok (.ifCond .eq 15, 3) := by decide +kernel
theorem dX1_joinFrom_25 : decode cX1_joinFrom 25 = .ok (.aload_n 1, 1) := by decide +kernel
theorem dX1_joinFrom_26 : decode cX1_joinFrom 26 = .ok (.iload_n 3, 1) := by decide +kernel
theorem dX1_joinFrom_27 : decode cX1_joinFrom 27 = .ok (.iload 4, 2) := by decide +kernel
theorem dX1_joinFrom_29 : decode cX1_joinFrom 29 = .ok (.iload 5, 2) := by decide +kernel
theorem dX1_joinFrom_31 : decode cX1_joinFrom 31 = .ok (.invokevirtual 39, 3) := by decide +kernel
theorem dX1_joinFrom_34 : decode cX1_joinFrom 34 = .ok (.ifCond .ne 15, 3) := by decide +kernel
theorem dX1_joinFrom_37 : decode cX1_joinFrom 37 = .ok (.aload_n 0, 1) := by decide +kernel
theorem dX1_joinFrom_38 : decode cX1_joinFrom 38 = .ok (.aload_n 1, 1) := by decide +kernel
theorem dX1_joinFrom_39 : decode cX1_joinFrom 39 = .ok (.iload_n 2, 1) := by decide +kernel
theorem dX1_joinFrom_40 : decode cX1_joinFrom 40 = .ok (.iload_n 3, 1) := by decide +kernel
theorem dX1_joinFrom_41 : decode cX1_joinFrom 41 = .ok (.iload 4, 2) := by decide +kernel
theorem dX1_joinFrom_43 : decode cX1_joinFrom 43 = .ok (.iload 5, 2) := by decide +kernel
theorem dX1_joinFrom_45 : decode cX1_joinFrom 45 = .ok (.invokevirtual 103, 3) := by decide +kernel
theorem dX1_joinFrom_48 : decode cX1_joinFrom 48 = .ok (.return_, 1) := by decide +kernel
theorem dX1_joinFrom_49 : decode cX1_joinFrom 49 = .ok (.iconst 0, 1) := by decide +kernel
theorem dX1_joinFrom_50 : decode cX1_joinFrom 50 = .ok (.istore 6, 2) := by decide +kernel
theorem dX1_joinFrom_52 : decode cX1_joinFrom 52 = .ok (.iload 6, 2) := by decide +kernel
theorem dX1_joinFrom_54 : decode cX1_joinFrom 54 = .ok (.iconst 4, 1) := by decide +kernel
theorem dX1_joinFrom_55 : decode cX1_joinFrom 55 = .ok (.if_icmp .ge 34, 3) := by decide +kernel
theorem dX1_joinFrom_58 : decode cX1_joinFrom 58 = .ok (.aload_n 0, 1) := by decide +kernel
theorem dX1_joinFrom_59 : decode cX1_joinFrom 59 = .ok (.aload_n 1, 1) := by decide +kernel
theorem dX1_joinFrom_60 : decode cX1_joinFrom 60 = .ok (.iload_n 2, 1) := by decide +kernel
theorem dX1_joinFrom_61 : decode cX1_joinFrom 61 = .ok (.iload_n 3, 1) := by decide +kernel
theorem dX1_joinFrom_62 : decode cX1_joinFrom 62 = .ok (.iconst 1, 1) := by decide +kernel
theorem dX1_joinFrom_63 : decode cX1_joinFrom 63 = .ok (.iadd, 1) := by decide +kernel
theorem dX1_joinFrom_64 : decode cX1_joinFrom 64 = .ok (.iload_n 3, 1) := by decide +kernel
theorem dX1_joinFrom_65 : decode cX1_joinFrom 65 = .ok (.iload 4, 2) := by decide +kernel
theorem dX1_joinFrom_67 : decode cX1_joinFrom 67 = .ok (.iload 6, 2) := by decide +kernel
theorem dX1_joinFrom_69 : decode cX1_joinFrom 69 = .ok (.invokestatic 57, 3) := by decide +kernel
theorem dX1_joinFrom_72 : decode cX1_joinFrom 72 = .ok (.iload_n 3, 1) := by decide +kernel
theorem dX1_joinFrom_73 : decode cX1_joinFrom 73 = .ok (.iload 5, 2) := by decide +kernel
theorem dX1_joinFrom_75 : decode cX1_joinFrom 75 = .ok (.iload 6, 2) := by decide +kernel
theorem dX1_joinFrom_77 : decode cX1_joinFrom 77 = .ok (.invokestatic 60, 3) := by decide +kernel
theorem dX1_joinFrom_80 : decode cX1_joinFrom 80 = .ok (.invokevirtual 99, 3) := by decide +kernel
theorem dX1_joinFrom_83 : decode cX1_joinFrom 83 = .ok (.iinc 6 1, 3) := by decide +kernel
theorem dX1_joinFrom_86 : decode cX1_joinFrom 86 = .ok (.goto (-34), 3) := by decide +kernel
theorem dX1_joinFrom_89 : decode cX1_joinFrom 89 = .ok (.return_, 1) := by decide +kernel
theorem dX1_joinEntries_0 : decode cX1_joinEntries 0 = .ok (.aload_n 0, 1) := by decide +kernel
theorem dX1_joinEntries_1 : decode cX1_joinEntries 1 = .ok (.iload_n 3, 1) := by decide +kernel
theorem dX1_joinEntries_2 : decode cX1_joinEntries 2 = .ok (.iload 4, 2) := by decide +kernel
theorem dX1_joinEntries_4 : decode cX1_joinEntries 4 = .ok (.iload 5, 2) := by decide +kernel
theorem dX1_joinEntries_6 : decode cX1_joinEntries 6 = .ok (.iconst 1, 1) := by decide +kernel
theorem dX1_joinEntries_7 : decode cX1_joinEntries 7 = .ok (.invokevirtual 71, 3) := by decide +kernel
theorem dX1_joinEntries_10 : decode cX1_joinEntries 10 = .ok (.iload_n 3, 1) := by decide +kernel
theorem dX1_joinEntries_11 : decode cX1_joinEntries 11 = .ok (.invokestatic 24, 3) := by decide +kernel
theorem dX1_joinEntries_14 : decode cX1_joinEntries 14 = .ok (.istore 6, 2) := by decide +kernel
theorem dX1_joinEntries_16 : decode cX1_joinEntries 16 = .ok (.iconst 0, 1) := by decide +kernel
theorem dX1_joinEntries_17 : decode cX1_joinEntries 17 = .ok (.istore 7, 2) := by decide +kernel
theorem dX1_joinEntries_19 : decode cX1_joinEntries 19 = .ok (.iload 7, 2) := by decide +kernel
theorem dX1_joinEntries_21 : decode cX1_joinEntries 21 = .ok (.iload 6, 2) := by decide +kernel
theorem dX1_joinEntries_23 : decode cX1_joinEntries 23 = .ok (.if_icmp .ge 78, 3) := by decide +kernel
theorem dX1_joinEntries_26 : decode cX1_joinEntries 26 = .ok (.iconst 0, 1) := by decide +kernel
theorem dX1_joinEntries_27 : decode cX1_joinEntries 27 = .ok (.istore 8, 2) := by decide +kernel
theorem dX1_joinEntries_29 : decode cX1_joinEntries 29 = .ok (.iload 8, 2) := by decide +kernel
theorem dX1_joinEntries_31 : decode cX1_joinEntries 31 = .ok (.iload 6, 2) := by decide +kernel
theorem dX1_joinEntries_33 : decode cX1_joinEntries 33 = .ok (.if_icmp .ge 62, 3) := by decide +kernel
theorem dX1_joinEntries_36 : decode cX1_joinEntries 36 = .ok (.iload 4, 2) := by decide +kernel
theorem dX1_joinEntries_38 : decode cX1_joinEntries 38 = .ok (.iload 7, 2) := by decide +kernel
theorem dX1_joinEntries_40 : decode cX1_joinEntries 40 = .ok (.iadd, 1) := by decide +kernel
theorem dX1_joinEntries_41 : decode cX1_joinEntries 41 = .ok (.iload 5, 2) := by decide +kernel
theorem dX1_joinEntries_43 : decode cX1_joinEntries 43 = .ok (.iload 8, 2) := by decide +kernel
theorem dX1_joinEntries_45 : decode cX1_joinEntries 45 = .ok (.iadd, 1) := by decide +kernel
theorem dX1_joinEntries_46 : decode cX1_joinEntries 46 = .ok (.invokestatic 28, 3) := by decide +kernel
theorem dX1_joinEntries_49 : decode cX1_joinEntries 49 = .ok (.istore 9, 2) := by decide +kernel
theorem dX1_joinEntries_51 : decode cX1_joinEntries 51 = .ok (.aload_n 0, 1) := by decide +kernel
theorem dX1_joinEntries_52 : decode cX1_joinEntries 52 = .ok (.getfield 9, 3) := by decide +kernel
theorem dX1_joinEntries_55 : decode cX1_joinEntries 55 = .ok (.iload 9, 2) := by decide +kernel
theorem dX1_joinEntries_57 : decode cX1_joinEntries 57 = .ok (.iaload, 1) := by decide +kernel
theorem dX1_joinEntries_58 : decode cX1_joinEntries 58 = .ok (.aload_n 1, 1) := by decide +kernel
theorem dX1_joinEntries_59 : decode cX1_joinEntries 59 = .ok (.getfield 9, 3) := by decide +kernel
theorem dX1_joinEntries_62 : decode cX1_joinEntries 62 = .ok (.iload 9, 2) := by decide +kernel
theorem dX1_joinEntries_64 : decode cX1_joinEntries 64 = .ok (.iaload, 1) := by decide +kernel
theorem dX1_joinEntries_65 : decode cX1_joinEntries 65 = .ok (.iload_n 2, 1) := by decide +kernel
theorem dX1_joinEntries_66 : decode cX1_joinEntries 66 = .ok (.imul, 1) := by decide +kernel
theorem dX1_joinEntries_67 : decode cX1_joinEntries 67 = .ok (.iadd, 1) := by decide +kernel
theorem dX1_joinEntries_68 : decode cX1_joinEntries 68 = .ok (.istore 10, 2) := by decide +kernel
theorem dX1_joinEntries_70 : decode cX1_joinEntries 70 = .ok (.aload_n 0, 1) := by decide +kernel
theorem dX1_joinEntries_71 : decode cX1_joinEntries 71 = .ok (.getfield 9, 3) := by decide +kernel
theorem dX1_joinEntries_74 : decode cX1_joinEntries 74 = .ok (.iload 9, 2) := by decide +kernel
theorem dX1_joinEntries_76 : decode cX1_joinEntries 76 = .ok (.ldc 106, 2) := by decide +kernel
theorem dX1_joinEntries_78 : decode cX1_joinEntries 78 = .ok (.ldc 107, 2) := by decide +kernel
theorem dX1_joinEntries_80 : decode cX1_joinEntries 80 = .ok (.iload 10, 2) := by decide +kernel
theorem dX1_joinEntries_82 : decode cX1_joinEntries 82 = .ok (.invokestatic 108, 3) := by decide +kernel
theorem dX1_joinEntries_85 : decode cX1_joinEntries 85 = .ok (.invokestatic 46, 3) := by decide +kernel
theorem dX1_joinEntries_88 : decode cX1_joinEntries 88 = .ok (.iastore, 1) := by decide +kernel
theorem dX1_joinEntries_89 : decode cX1_joinEntries 89 = .ok (.iinc 8 1, 3) := by decide +kernel
theorem dX1_joinEntries_92 : decode cX1_joinEntries 92 = .ok (.goto (-63), 3) := by decide +kernel
theorem dX1_joinEntries_95 : decode cX1_joinEntries 95 = .ok (.iinc 7 1, 3) := by decide +kernel
theorem dX1_joinEntries_98 : decode cX1_joinEntries 98 = .ok (.goto (-79), 3) := by decide +kernel
theorem dX1_joinEntries_101 : decode cX1_joinEntries 101 = .ok (.return_, 1) := by decide +kernel
theorem dX1_transpose_0 : decode cX1_transpose 0 = .ok (.iconst 0, 1) := by decide +kernel
theorem dX1_transpose_1 : decode cX1_transpose 1 = .ok (.istore_n 1, 1) := by decide +kernel
theorem dX1_transpose_2 : decode cX1_transpose 2 = .ok (.iload_n 1, 1) := by decide +kernel
theorem dX1_transpose_3 : decode cX1_transpose 3 = .ok (.bipush 16, 2) := by decide +kernel
theorem dX1_transpose_5 : decode cX1_transpose 5 = .ok (.if_icmp .ge 39, 3) := by decide +kernel
theorem dX1_transpose_8 : decode cX1_transpose 8 = .ok (.iconst 0, 1) := by decide +kernel
theorem dX1_transpose_9 : decode cX1_transpose 9 = .ok (.istore_n 2, 1) := by decide +kernel
theorem dX1_transpose_10 : decode cX1_transpose 10 = .ok (.iload_n 2, 1) := by decide +kernel
theorem dX1_transpose_11 : decode cX1_transpose 11 = .ok (.iload_n 1, 1) := by decide +kernel
theorem dX1_transpose_12 : decode cX1_transpose 12 = .ok (.if_icmp .ge 26, 3) := by decide +kernel
theorem dX1_transpose_15 : decode cX1_transpose 15 = .ok (.aload_n 0, 1) := by decide +kernel
theorem dX1_transpose_16 : decode cX1_transpose 16 = .ok (.getfield 9, 3) := by decide +kernel
theorem dX1_transpose_19 : decode cX1_transpose 19 = .ok (.iload_n 1, 1) := by decide +kernel
theorem dX1_transpose_20 : decode cX1_transpose 20 = .ok (.iload_n 2, 1) := by decide +kernel
theorem dX1_transpose_21 : decode cX1_transpose 21 = .ok (.invokestatic 28, 3) := by decide +kernel
theorem dX1_transpose_24 : decode cX1_transpose 24 = .ok (.iload_n 2, 1) := by decide +kernel
theorem dX1_transpose_25 : decode cX1_transpose 25 = .ok (.iload_n 1, 1) := by decide +kernel
theorem dX1_transpose_26 : decode cX1_transpose 26 = .ok (.invokestatic 28, 3) := by decide +kernel
theorem dX1_transpose_29 : decode cX1_transpose 29 = .ok (.invokestatic 111, 3) := by decide +kernel
theorem dX1_transpose_32 : decode cX1_transpose 32 = .ok (.iinc 2 1, 3) := by decide +kernel
theorem dX1_transpose_35 : decode cX1_transpose 35 = .ok (.goto (-25), 3) := by decide +kernel
theorem dX1_transpose_38 : decode cX1_transpose 38 = .ok (.iinc 1 1, 3) := by decide +kernel
theorem dX1_transpose_41 : decode cX1_transpose 41 = .ok (.goto (-39), 3) := by decide +kernel
theorem dX1_transpose_44 : decode cX1_transpose 44 = .ok (.iconst 0, 1) := by decide +kernel
theorem dX1_transpose_45 : decode cX1_transpose 45 = .ok (.istore_n 1, 1) := by decide +kernel
theorem dX1_transpose_46 : decode cX1_transpose 46 = .ok (.iload_n 1, 1) := by decide +kernel
theorem dX1_transpose_47 : decode cX1_transpose 47 = .ok (.iconst 3, 1) := by decide +kernel
theorem dX1_transpose_48 : decode cX1_transpose 48 = .ok (.if_icmp .gt 14, 3) := by decide +kernel
theorem dX1_transpose_51 : decode cX1_transpose 51 = .ok (.aload_n 0, 1) := by decide +kernel
theorem dX1_transpose_52 : decode cX1_transpose 52 = .ok (.iload_n 1, 1) := by decide +kernel
theorem dX1_transpose_53 : decode cX1_transpose 53 = .ok (.invokevirtual 115, 3) := by decide +kernel
theorem dX1_transpose_56 : decode cX1_transpose 56 = .ok (.iinc 1 1, 3) := by decide +kernel
theorem dX1_transpose_59 : decode cX1_transpose 59 = .ok (.goto (-13), 3) := by decide +kernel
theorem dX1_transpose_62 : decode cX1_transpose 62 = .ok (.return_, 1) := by decide +kernel
theorem dX1_transposeSorts_0 : decode cX1_transposeSorts 0 = .ok (.iload_n 1, 1) := by decide +kernel
theorem dX1_transposeSorts_1 : decode cX1_transposeSorts 1 = .ok (.invokestatic 24, 3) := by decide +kernel
theorem dX1_transposeSorts_4 : decode cX1_transposeSorts 4 = .ok (.istore_n 2, 1) := by decide +kernel
theorem dX1_transposeSorts_5 : decode cX1_transposeSorts 5 = .ok (.iconst 0, 1) := by decide +kernel
theorem dX1_transposeSorts_6 : decode cX1_transposeSorts 6 = .ok (.istore_n 3, 1) := by decide +kernel
theorem dX1_transposeSorts_7 : decode cX1_transposeSorts 7 = .ok (.iload_n 3, 1) := by decide +kernel
theorem dX1_transposeSorts_8 : decode cX1_transposeSorts 8 = .ok (.bipush 16, 2) := by decide +kernel
theorem dX1_transposeSorts_10 : decode cX1_transposeSorts 10 = .ok (.if_icmp .ge 49, 3) := by decide +kernel
theorem dX1_transposeSorts_13 : decode cX1_transposeSorts 13 = .ok (.iconst 0, 1) := by decide +kernel
theorem dX1_transposeSorts_14 : decode cX1_transposeSorts 14 = .ok (.istore 4, 2) := by decide +kernel
theorem dX1_transposeSorts_16 : decode cX1_transposeSorts 16 = .ok (.iload 4, 2) := by decide +kernel
theorem dX1_transposeSorts_18 : decode cX1_transposeSorts 18 = .ok (.iload_n 3, 1) := by decide +kernel
theorem dX1_transposeSorts_19 : decode cX1_transposeSorts 19 = .ok (.if_icmp .ge 33, 3) := by decide +kernel
theorem dX1_transposeSorts_22 : decode cX1_transposeSorts 22 = .ok (.aload_n 0, 1) := by decide +kernel
theorem dX1_transposeSorts_23 : decode cX1_transposeSorts 23 = .ok (.getfield 15, 3) := by decide +kernel
theorem dX1_transposeSorts_26 : decode cX1_transposeSorts 26 = .ok (.iload_n 1, 1) := by decide +kernel
theorem dX1_transposeSorts_27 : decode cX1_transposeSorts 27 = .ok (.iload_n 3, 1) := by decide +kernel
theorem dX1_transposeSorts_28 : decode cX1_transposeSorts 28 = .ok (.iload 4, 2) := by decide +kernel
theorem dX1_transposeSorts_30 : decode cX1_transposeSorts 30 = .ok (.invokestatic 32, 3) := by decide +kernel
theorem dX1_transposeSorts_33 : decode cX1_transposeSorts 33 = .ok (.iload_n 1, 1) := by decide +kernel
theorem dX1_transposeSorts_34 : decode cX1_transposeSorts 34 = .ok (.iload 4, 2) := by decide +kernel
theorem dX1_transposeSorts_36 : decode cX1_transposeSorts 36 = .ok (.iload_n 3, 1) := by decide +kernel
theorem dX1_transposeSorts_37 : decode cX1_transposeSorts 37 = .ok (.invokestatic 32, 3) := by decide +kernel
theorem dX1_transposeSorts_40 : decode cX1_transposeSorts 40 = .ok (.invokestatic 111, 3) := by decide +kernel
theorem dX1_transposeSorts_43 : decode cX1_transposeSorts 43 = .ok (.iload 4, 2) := by decide +kernel
theorem dX1_transposeSorts_45 : decode cX1_transposeSorts 45 = .ok (.iload_n 2, 1) := by decide +kernel
theorem dX1_transposeSorts_46 : decode cX1_transposeSorts 46 = .ok (.iadd, 1) := by decide +kernel
theorem dX1_transposeSorts_47 : decode cX1_transposeSorts 47 = .ok (.istore 4, 2) := by decide +kernel
theorem dX1_transposeSorts_49 : decode cX1_transposeSorts 49 = .ok (.goto (-33), 3) := by decide +kernel
theorem dX1_transposeSorts_52 : decode cX1_transposeSorts 52 = .ok (.iload_n 3, 1) := by decide +kernel
theorem dX1_transposeSorts_53 : decode cX1_transposeSorts 53 = .ok (.iload_n 2, 1) := by decide +kernel
theorem dX1_transposeSorts_54 : decode cX1_transposeSorts 54 = .ok (.iadd, 1) := by decide +kernel
theorem dX1_transposeSorts_55 : decode cX1_transposeSorts 55 = .ok (.istore_n 3, 1) := by decide +kernel
theorem dX1_transposeSorts_56 : decode cX1_transposeSorts 56 = .ok (.goto (-49), 3) := by decide +kernel
theorem dX1_transposeSorts_59 : decode cX1_transposeSorts 59 = .ok (.return_, 1) := by decide +kernel
theorem dX1_swap_0 : decode cX1_swap 0 = .ok (.aload_n 0, 1) := by decide +kernel
theorem dX1_swap_1 : decode cX1_swap 1 = .ok (.iload_n 1, 1) := by decide +kernel
theorem dX1_swap_2 : decode cX1_swap 2 = .ok (.iaload, 1) := by decide +kernel
theorem dX1_swap_3 : decode cX1_swap 3 = .ok (.istore_n 3, 1) := by decide +kernel
theorem dX1_swap_4 : decode cX1_swap 4 = .ok (.aload_n 0, 1) := by decide +kernel
theorem dX1_swap_5 : decode cX1_swap 5 = .ok (.iload_n 1, 1) := by decide +kernel
theorem dX1_swap_6 : decode cX1_swap 6 = .ok (.aload_n 0, 1) := by decide +kernel
theorem dX1_swap_7 : decode cX1_swap 7 = .ok (.iload_n 2, 1) := by decide +kernel
theorem dX1_swap_8 : decode cX1_swap 8 = .ok (.iaload, 1) := by decide +kernel
theorem dX1_swap_9 : decode cX1_swap 9 = .ok (.iastore, 1) := by decide +kernel
theorem dX1_swap_10 : decode cX1_swap 10 = .ok (.aload_n 0, 1) := by decide +kernel
theorem dX1_swap_11 : decode cX1_swap 11 = .ok (.iload_n 2, 1) := by decide +kernel
theorem dX1_swap_12 : decode cX1_swap 12 = .ok (.iload_n 3, 1) := by decide +kernel
theorem dX1_swap_13 : decode cX1_swap 13 = .ok (.iastore, 1) := by decide +kernel
theorem dX1_swap_14 : decode cX1_swap 14 = .ok (.return_, 1) := by decide +kernel
theorem dX1_isItsTurned_0 : decode cX1_isItsTurned 0 = .ok (.iconst 0, 1) := by decide +kernel
theorem dX1_isItsTurned_1 : decode cX1_isItsTurned 1 = .ok (.istore_n 1, 1) := by decide +kernel
theorem dX1_isItsTurned_2 : decode cX1_isItsTurned 2 = .ok (.iload_n 1, 1) := by decide +kernel
theorem dX1_isItsTurned_3 : decode cX1_isItsTurned 3 = .ok (.bipush 16, 2) := by decide +kernel
theorem dX1_isItsTurned_5 : decode cX1_isItsTurned 5 = .ok (.if_icmp .ge 39, 3) := by decide +kernel
theorem dX1_isItsTurned_8 : decode cX1_isItsTurned 8 = .ok (.iconst 0, 1) := by decide +kernel
theorem dX1_isItsTurned_9 : decode cX1_isItsTurned 9 = .ok (.istore_n 2, 1) := by decide +kernel
theorem dX1_isItsTurned_10 : decode cX1_isItsTurned 10 = .ok (.iload_n 2, 1) := by decide +kernel
theorem dX1_isItsTurned_11 : decode cX1_isItsTurned 11 = .ok (.iload_n 1, 1) := by decide +kernel
theorem dX1_isItsTurned_12 : decode cX1_isItsTurned 12 = .ok (.if_icmp .ge 26, 3) := by decide +kernel
theorem dX1_isItsTurned_15 : decode cX1_isItsTurned 15 = .ok (.aload_n 0, 1) := by decide +kernel
theorem dX1_isItsTurned_16 : decode cX1_isItsTurned 16 = .ok (.iload_n 1, 1) := by decide +kernel
theorem dX1_isItsTurned_17 : decode cX1_isItsTurned 17 = .ok (.iload_n 2, 1) := by decide +kernel
theorem dX1_isItsTurned_18 : decode cX1_isItsTurned 18 = .ok (.invokevirtual 96, 3) := by decide +kernel
theorem dX1_isItsTurned_21 : decode cX1_isItsTurned 21 = .ok (.aload_n 0, 1) := by decide +kernel
theorem dX1_isItsTurned_22 : decode cX1_isItsTurned 22 = .ok (.iload_n 2, 1) := by decide +kernel
theorem dX1_isItsTurned_23 : decode cX1_isItsTurned 23 = .ok (.iload_n 1, 1) := by decide +kernel
theorem dX1_isItsTurned_24 : decode cX1_isItsTurned 24 = .ok (.invokevirtual 96, 3) := by decide +kernel
theorem dX1_isItsTurned_27 : decode cX1_isItsTurned 27 = .ok (.if_icmp .eq 5, 3) := by decide +kernel
theorem dX1_isItsTurned_30 : decode cX1_isItsTurned 30 = .ok (.iconst 0, 1) := by decide +kernel
theorem dX1_isItsTurned_31 : decode cX1_isItsTurned 31 = .ok (.ireturn, 1) := by decide +kernel
theorem dX1_isItsTurned_32 : decode cX1_isItsTurned 32 = .ok (.iinc 2 1, 3) := by decide +kernel
theorem dX1_isItsTurned_35 : decode cX1_isItsTurned 35 = .ok (.goto (-25), 3) := by decide +kernel
theorem dX1_isItsTurned_38 : decode cX1_isItsTurned 38 = .ok (.iinc 1 1, 3) := by decide +kernel
theorem dX1_isItsTurned_41 : decode cX1_isItsTurned 41 = .ok (.goto (-39), 3) := by decide +kernel
theorem dX1_isItsTurned_44 : decode cX1_isItsTurned 44 = .ok (.iconst 1, 1) := by decide +kernel
theorem dX1_isItsTurned_45 : decode cX1_isItsTurned 45 = .ok (.ireturn, 1) := by decide +kernel
theorem dX1_trace_0 : decode cX1_trace 0 = .ok (.iconst 0, 1) := by decide +kernel
theorem dX1_trace_1 : decode cX1_trace 1 = .ok (.istore_n 1, 1) := by decide +kernel
theorem dX1_trace_2 : decode cX1_trace 2 = .ok (.iconst 0, 1) := by decide +kernel
theorem dX1_trace_3 : decode cX1_trace 3 = .ok (.istore_n 2, 1) := by decide +kernel
theorem dX1_trace_4 : decode cX1_trace 4 = .ok (.iload_n 2, 1) := by decide +kernel
theorem dX1_trace_5 : decode cX1_trace 5 = .ok (.bipush 16, 2) := by decide +kernel
theorem dX1_trace_7 : decode cX1_trace 7 = .ok (.if_icmp .ge 18, 3) := by decide +kernel
theorem dX1_trace_10 : decode cX1_trace 10 = .ok (.iload_n 1, 1) := by decide +kernel
theorem dX1_trace_11 : decode cX1_trace 11 = .ok (.aload_n 0, 1) := by decide +kernel
theorem dX1_trace_12 : decode cX1_trace 12 = .ok (.iload_n 2, 1) := by decide +kernel
theorem dX1_trace_13 : decode cX1_trace 13 = .ok (.iload_n 2, 1) := by decide +kernel
theorem dX1_trace_14 : decode cX1_trace 14 = .ok (.invokevirtual 96, 3) := by decide +kernel
theorem dX1_trace_17 : decode cX1_trace 17 = .ok (.iadd, 1) := by decide +kernel
theorem dX1_trace_18 : decode cX1_trace 18 = .ok (.istore_n 1, 1) := by decide +kernel
theorem dX1_trace_19 : decode cX1_trace 19 = .ok (.iinc 2 1, 3) := by decide +kernel
theorem dX1_trace_22 : decode cX1_trace 22 = .ok (.goto (-18), 3) := by decide +kernel
theorem dX1_trace_25 : decode cX1_trace 25 = .ok (.iload_n 1, 1) := by decide +kernel
theorem dX1_trace_26 : decode cX1_trace 26 = .ok (.ireturn, 1) := by decide +kernel
theorem dX1_filledEntries_0 : decode cX1_filledEntries 0 = .ok (.iconst 0, 1) := by decide +kernel
theorem dX1_filledEntries_1 : decode cX1_filledEntries 1 = .ok (.istore_n 1, 1) := by decide +kernel
theorem dX1_filledEntries_2 : decode cX1_filledEntries 2 = .ok (.iconst 0, 1) := by decide +kernel
theorem dX1_filledEntries_3 : decode cX1_filledEntries 3 = .ok (.istore_n 2, 1) := by decide +kernel
theorem dX1_filledEntries_4 : decode cX1_filledEntries 4 = .ok (.iload_n 2, 1) := by decide +kernel
theorem dX1_filledEntries_5 : decode cX1_filledEntries 5 = .ok (.sipush 256, 3) := by decide +kernel
theorem dX1_filledEntries_8 : decode cX1_filledEntries 8 = .ok (.if_icmp .ge 26, 3) := by decide +kernel
theorem dX1_filledEntries_11 : decode cX1_filledEntries 11 = .ok (.iload_n 1, 1) := by decide +kernel
theorem dX1_filledEntries_12 : decode cX1_filledEntries 12 = .ok (.aload_n 0, 1) := by decide +kernel
theorem dX1_filledEntries_13 : decode cX1_filledEntries 13 = .ok (.getfield 9, 3) := by decide +kernel
theorem dX1_filledEntries_16 : decode cX1_filledEntries 16 = .ok (.iload_n 2, 1) := by decide +kernel
theorem dX1_filledEntries_17 : decode cX1_filledEntries 17 = .ok (.iaload, 1) := by decide +kernel
theorem dX1_filledEntries_18 : decode cX1_filledEntries 18 = .ok (.ifCond .eq 7, 3) := by decide +kernel
theorem dX1_filledEntries_21 : decode cX1_filledEntries 21 = .ok (.iconst 1, 1) := by decide +kernel
theorem dX1_filledEntries_22 : decode cX1_filledEntries 22 = .ok (.goto 4, 3) := by decide +kernel
theorem dX1_filledEntries_25 : decode cX1_filledEntries 25 = .ok (.iconst 0, 1) := by decide +kernel
theorem dX1_filledEntries_26 : decode cX1_filledEntries 26 = .ok (.iadd, 1) := by decide +kernel
theorem dX1_filledEntries_27 : decode cX1_filledEntries 27 = .ok (.istore_n 1, 1) := by decide +kernel
theorem dX1_filledEntries_28 : decode cX1_filledEntries 28 = .ok (.iinc 2 1, 3) := by decide +kernel
theorem dX1_filledEntries_31 : decode cX1_filledEntries 31 = .ok (.goto (-27), 3) := by decide +kernel
theorem dX1_filledEntries_34 : decode cX1_filledEntries 34 = .ok (.iload_n 1, 1) := by decide +kernel
theorem dX1_filledEntries_35 : decode cX1_filledEntries 35 = .ok (.ireturn, 1) := by decide +kernel
theorem dX1_greatest_0 : decode cX1_greatest 0 = .ok (.aload_n 0, 1) := by decide +kernel
theorem dX1_greatest_1 : decode cX1_greatest 1 = .ok (.getfield 9, 3) := by decide +kernel
theorem dX1_greatest_4 : decode cX1_greatest 4 = .ok (.iconst 0, 1) := by decide +kernel
theorem dX1_greatest_5 : decode cX1_greatest 5 = .ok (.iaload, 1) := by decide +kernel
theorem dX1_greatest_6 : decode cX1_greatest 6 = .ok (.istore_n 1, 1) := by decide +kernel
theorem dX1_greatest_7 : decode cX1_greatest 7 = .ok (.iconst 1, 1) := by decide +kernel
theorem dX1_greatest_8 : decode cX1_greatest 8 = .ok (.istore_n 2, 1) := by decide +kernel
theorem dX1_greatest_9 : decode cX1_greatest 9 = .ok (.iload_n 2, 1) := by decide +kernel
theorem dX1_greatest_10 : decode cX1_greatest 10 = .ok (.sipush 256, 3) := by decide +kernel
theorem dX1_greatest_13 : decode cX1_greatest 13 = .ok (.if_icmp .ge 20, 3) := by decide +kernel
theorem dX1_greatest_16 : decode cX1_greatest 16 = .ok (.iload_n 1, 1) := by decide +kernel
theorem dX1_greatest_17 : decode cX1_greatest 17 = .ok (.aload_n 0, 1) := by decide +kernel
theorem dX1_greatest_18 : decode cX1_greatest 18 = .ok (.getfield 9, 3) := by decide +kernel
theorem dX1_greatest_21 : decode cX1_greatest 21 = .ok (.iload_n 2, 1) := by decide +kernel
theorem dX1_greatest_22 : decode cX1_greatest 22 = .ok (.iaload, 1) := by decide +kernel
theorem dX1_greatest_23 : decode cX1_greatest 23 = .ok (.invokestatic 46, 3) := by decide +kernel
theorem dX1_greatest_26 : decode cX1_greatest 26 = .ok (.istore_n 1, 1) := by decide +kernel
theorem dX1_greatest_27 : decode cX1_greatest 27 = .ok (.iinc 2 1, 3) := by decide +kernel
theorem dX1_greatest_30 : decode cX1_greatest 30 = .ok (.goto (-21), 3) := by decide +kernel
theorem dX1_greatest_33 : decode cX1_greatest 33 = .ok (.iload_n 1, 1) := by decide +kernel
theorem dX1_greatest_34 : decode cX1_greatest 34 = .ok (.ireturn, 1) := by decide +kernel
theorem dX1_least_0 : decode cX1_least 0 = .ok (.aload_n 0, 1) := by decide +kernel
theorem dX1_least_1 : decode cX1_least 1 = .ok (.getfield 9, 3) := by decide +kernel
theorem dX1_least_4 : decode cX1_least 4 = .ok (.iconst 0, 1) := by decide +kernel
theorem dX1_least_5 : decode cX1_least 5 = .ok (.iaload, 1) := by decide +kernel
theorem dX1_least_6 : decode cX1_least 6 = .ok (.istore_n 1, 1) := by decide +kernel
theorem dX1_least_7 : decode cX1_least 7 = .ok (.iconst 1, 1) := by decide +kernel
theorem dX1_least_8 : decode cX1_least 8 = .ok (.istore_n 2, 1) := by decide +kernel
theorem dX1_least_9 : decode cX1_least 9 = .ok (.iload_n 2, 1) := by decide +kernel
theorem dX1_least_10 : decode cX1_least 10 = .ok (.sipush 256, 3) := by decide +kernel
theorem dX1_least_13 : decode cX1_least 13 = .ok (.if_icmp .ge 20, 3) := by decide +kernel
theorem dX1_least_16 : decode cX1_least 16 = .ok (.iload_n 1, 1) := by decide +kernel
theorem dX1_least_17 : decode cX1_least 17 = .ok (.aload_n 0, 1) := by decide +kernel
theorem dX1_least_18 : decode cX1_least 18 = .ok (.getfield 9, 3) := by decide +kernel
theorem dX1_least_21 : decode cX1_least 21 = .ok (.iload_n 2, 1) := by decide +kernel
theorem dX1_least_22 : decode cX1_least 22 = .ok (.iaload, 1) := by decide +kernel
theorem dX1_least_23 : decode cX1_least 23 = .ok (.invokestatic 108, 3) := by decide +kernel
theorem dX1_least_26 : decode cX1_least 26 = .ok (.istore_n 1, 1) := by decide +kernel
theorem dX1_least_27 : decode cX1_least 27 = .ok (.iinc 2 1, 3) := by decide +kernel
theorem dX1_least_30 : decode cX1_least 30 = .ok (.goto (-21), 3) := by decide +kernel
theorem dX1_least_33 : decode cX1_least 33 = .ok (.iload_n 1, 1) := by decide +kernel
theorem dX1_least_34 : decode cX1_least 34 = .ok (.ireturn, 1) := by decide +kernel
theorem dX2_init_0 : decode cX2_init 0 = .ok (.aload_n 0, 1) := by decide +kernel
theorem dX2_init_1 : decode cX2_init 1 = .ok (.invokespecial 3, 3) := by decide +kernel
theorem dX2_init_4 : decode cX2_init 4 = .ok (.aload_n 0, 1) := by decide +kernel
theorem dX2_init_5 : decode cX2_init 5 = .ok (.bipush 80, 2) := by decide +kernel
theorem dX2_init_7 : decode cX2_init 7 = .ok (.newarray .char, 2) := by decide +kernel
theorem dX2_init_9 : decode cX2_init 9 = .ok (.putfield 9, 3) := by decide +kernel
theorem dX2_init_12 : decode cX2_init 12 = .ok (.aload_n 0, 1) := by decide +kernel
theorem dX2_init_13 : decode cX2_init 13 = .ok (.iconst 0, 1) := by decide +kernel
theorem dX2_init_14 : decode cX2_init 14 = .ok (.putfield 15, 3) := by decide +kernel
theorem dX2_init_17 : decode cX2_init 17 = .ok (.aload_n 0, 1) := by decide +kernel
theorem dX2_init_18 : decode cX2_init 18 = .ok (.new 19, 3) := by decide +kernel
theorem dX2_init_21 : decode cX2_init 21 = .ok (.dup, 1) := by decide +kernel
theorem dX2_init_22 : decode cX2_init 22 = .ok (.invokespecial 21, 3) := by decide +kernel
theorem dX2_init_25 : decode cX2_init 25 = .ok (.putfield 22, 3) := by decide +kernel
theorem dX2_init_28 : decode cX2_init 28 = .ok (.aload_n 0, 1) := by decide +kernel
theorem dX2_init_29 : decode cX2_init 29 = .ok (.bipush 16, 2) := by decide +kernel
theorem dX2_init_31 : decode cX2_init 31 = .ok (.newarray .int, 2) := by decide +kernel
theorem dX2_init_33 : decode cX2_init 33 = .ok (.putfield 26, 3) := by decide +kernel
theorem dX2_init_36 : decode cX2_init 36 = .ok (.aload_n 0, 1) := by decide +kernel
theorem dX2_init_37 : decode cX2_init 37 = .ok (.bipush 16, 2) := by decide +kernel
theorem dX2_init_39 : decode cX2_init 39 = .ok (.newarray .int, 2) := by decide +kernel
theorem dX2_init_41 : decode cX2_init 41 = .ok (.putfield 30, 3) := by decide +kernel
theorem dX2_init_44 : decode cX2_init 44 = .ok (.aload_n 0, 1) := by decide +kernel
theorem dX2_init_45 : decode cX2_init 45 = .ok (.sipush 256, 3) := by decide +kernel
theorem dX2_init_48 : decode cX2_init 48 = .ok (.newarray .int, 2) := by decide +kernel
theorem dX2_init_50 : decode cX2_init 50 = .ok (.putfield 33, 3) := by decide +kernel
theorem dX2_init_53 : decode cX2_init 53 = .ok (.aload_n 0, 1) := by decide +kernel
theorem dX2_init_54 : decode cX2_init 54 = .ok (.iconst 0, 1) := by decide +kernel
theorem dX2_init_55 : decode cX2_init 55 = .ok (.putfield 36, 3) := by decide +kernel
theorem dX2_init_58 : decode cX2_init 58 = .ok (.aload_n 0, 1) := by decide +kernel
theorem dX2_init_59 : decode cX2_init 59 = .ok (.iconst 0, 1) := by decide +kernel
theorem dX2_init_60 : decode cX2_init 60 = .ok (.putfield 39, 3) := by decide +kernel
theorem dX2_init_63 : decode cX2_init 63 = .ok (.return_, 1) := by decide +kernel
theorem dX2_append_0 : decode cX2_append 0 = .ok (.aload_n 0, 1) := by decide +kernel
theorem dX2_append_1 : decode cX2_append 1 = .ok (.getfield 15, 3) := by decide +kernel
theorem dX2_append_4 : decode cX2_append 4 = .ok (.bipush 80, 2) := by decide +kernel
theorem dX2_append_6 : decode cX2_append 6 = .ok (.if_icmp .ge 23, 3) := by decide +kernel
theorem dX2_append_9 : decode cX2_append 9 = .ok (.aload_n 0, 1) := by decide +kernel
theorem dX2_append_10 : decode cX2_append 10 = .ok (.getfield 9, 3) := by decide +kernel
theorem dX2_append_13 : decode cX2_append 13 = .ok (.aload_n 0, 1) := by decide +kernel
theorem dX2_append_14 : decode cX2_append 14 = .ok (.getfield 15, 3) := by decide +kernel
theorem dX2_append_17 : decode cX2_append 17 = .ok (.iload_n 1, 1) := by decide +kernel
theorem dX2_append_18 : decode cX2_append 18 = .ok (.castore, 1) := by decide +kernel
theorem dX2_append_19 : decode cX2_append 19 = .ok (.aload_n 0, 1) := by decide +kernel
theorem dX2_append_20 : decode cX2_append 20 = .ok (.dup, 1) := by decide +kernel
theorem dX2_append_21 : decode cX2_append 21 = .ok (.getfield 15, 3) := by decide +kernel
theorem dX2_append_24 : decode cX2_append 24 = .ok (.iconst 1, 1) := by decide +kernel
theorem dX2_append_25 : decode cX2_append 25 = .ok (.iadd, 1) := by decide +kernel
theorem dX2_append_26 : decode cX2_append 26 = .ok (.putfield 15, 3) := by decide +kernel
theorem dX2_append_29 : decode cX2_append 29 = .ok (.return_, 1) := by decide +kernel
theorem dX2_read_0 : decode cX2_read 0 = .ok (.aload_n 0, 1) := by decide +kernel
theorem dX2_read_1 : decode cX2_read 1 = .ok (.iconst 0, 1) := by decide +kernel
theorem dX2_read_2 : decode cX2_read 2 = .ok (.putfield 36, 3) := by decide +kernel
theorem dX2_read_5 : decode cX2_read 5 = .ok (.aload_n 0, 1) := by decide +kernel
theorem dX2_read_6 : decode cX2_read 6 = .ok (.iconst 0, 1) := by decide +kernel
theorem dX2_read_7 : decode cX2_read 7 = .ok (.iconst 0, 1) := by decide +kernel
theorem dX2_read_8 : decode cX2_read 8 = .ok (.iconst 0, 1) := by decide +kernel
theorem dX2_read_9 : decode cX2_read 9 = .ok (.invokevirtual 42, 3) := by decide +kernel
theorem dX2_read_12 : decode cX2_read 12 = .ok (.ifCond .eq 18, 3) := by decide +kernel
theorem dX2_read_15 : decode cX2_read 15 = .ok (.aload_n 0, 1) := by decide +kernel
theorem dX2_read_16 : decode cX2_read 16 = .ok (.getfield 36, 3) := by decide +kernel
theorem dX2_read_19 : decode cX2_read 19 = .ok (.aload_n 0, 1) := by decide +kernel
theorem dX2_read_20 : decode cX2_read 20 = .ok (.getfield 15, 3) := by decide +kernel
theorem dX2_read_23 : decode cX2_read 23 = .ok (.if_icmp .ne 7, 3) := by decide +kernel
theorem dX2_read_26 : decode cX2_read 26 = .ok (.iconst 1, 1) := by decide +kernel
theorem dX2_read_27 : decode cX2_read 27 = .ok (.goto 4, 3) := by decide +kernel
theorem dX2_read_30 : decode cX2_read 30 = .ok (.iconst 0, 1) := by decide +kernel
theorem dX2_read_31 : decode cX2_read 31 = .ok (.ireturn, 1) := by decide +kernel
theorem dX2_readBlock_0 : decode cX2_readBlock 0 = .ok (.aload_n 0, 1) := by decide +kernel
theorem dX2_readBlock_1 : decode cX2_readBlock 1 = .ok (.bipush 48, 2) := by decide +kernel
theorem dX2_readBlock_3 : decode cX2_readBlock 3 = .ok (.invokevirtual 46, 3) := by decide +kernel
theorem dX2_readBlock_6 : decode cX2_readBlock 6 = .ok (.ifCond .eq 15, 3) := by decide +kernel
theorem dX2_readBlock_9 : decode cX2_readBlock 9 = .ok (.aload_n 0, 1) := by decide +kernel
theorem dX2_readBlock_10 : decode cX2_readBlock 10 = .ok (.getfield 22, 3) := by decide +kernel
theorem dX2_readBlock_13 : decode cX2_readBlock 13 = .ok (.iload_n 1, 1) := by decide +kernel
theorem dX2_readBlock_14 : decode cX2_readBlock 14 = .ok (.iload_n 2, 1) := by decide +kernel
theorem dX2_readBlock_15 : decode cX2_readBlock 15 = .ok (.iload_n 3, 1) := by decide +kernel
theorem dX2_readBlock_16 : decode cX2_readBlock 16 = .ok (.invokevirtual 50, 3) := by decide +kernel
theorem dX2_readBlock_19 : decode cX2_readBlock 19 = .ok (.iconst 1, 1) := by decide +kernel
theorem dX2_readBlock_20 : decode cX2_readBlock 20 = .ok (.ireturn, 1) := by decide +kernel
theorem dX2_readBlock_21 : decode cX2_readBlock 21 = .ok (.aload_n 0, 1) := by decide +kernel
theorem dX2_readBlock_22 : decode cX2_readBlock 22 = .ok (.bipush 100, 2) := by decide +kernel
theorem dX2_readBlock_24 : decode cX2_readBlock 24 = .ok (.invokevirtual 46, 3) := by decide +kernel
theorem dX2_readBlock_27 : decode cX2_readBlock 27 = .ok (.ifCond .eq 11, 3) := by decide +kernel
theorem dX2_readBlock_30 : decode cX2_readBlock 30 = .ok (.aload_n 0, 1) := by decide +kernel
theorem dX2_readBlock_31 : decode cX2_readBlock 31 = .ok (.iload_n 1, 1) := by decide +kernel
theorem dX2_readBlock_32 : decode cX2_readBlock 32 = .ok (.iload_n 2, 1) := by decide +kernel
theorem dX2_readBlock_33 : decode cX2_readBlock 33 = .ok (.iload_n 3, 1) := by decide +kernel
theorem dX2_readBlock_34 : decode cX2_readBlock 34 = .ok (.invokevirtual 54, 3) := by decide +kernel
theorem dX2_readBlock_37 : decode cX2_readBlock 37 = .ok (.ireturn, 1) := by decide +kernel
theorem dX2_readBlock_38 : decode cX2_readBlock 38 = .ok (.aload_n 0, 1) := by decide +kernel
theorem dX2_readBlock_39 : decode cX2_readBlock 39 = .ok (.bipush 117, 2) := by decide +kernel
theorem dX2_readBlock_41 : decode cX2_readBlock 41 = .ok (.invokevirtual 46, 3) := by decide +kernel
theorem dX2_readBlock_44 : decode cX2_readBlock 44 = .ok (.ifCond .eq 11, 3) := by decide +kernel
theorem dX2_readBlock_47 : decode cX2_readBlock 47 = .ok (.aload_n 0, 1) := by decide +kernel
theorem dX2_readBlock_48 : decode cX2_readBlock 48 = .ok (.iload_n 1, 1) := by decide +kernel
theorem dX2_readBlock_49 : decode cX2_readBlock 49 = .ok (.iload_n 2, 1) := by decide +kernel
theorem dX2_readBlock_50 : decode cX2_readBlock 50 = .ok (.iload_n 3, 1) := by decide +kernel
theorem dX2_readBlock_51 : decode cX2_readBlock 51 = .ok (.invokevirtual 57, 3) := by decide +kernel
theorem dX2_readBlock_54 : decode cX2_readBlock 54 = .ok (.ireturn, 1) := by decide +kernel
theorem dX2_readBlock_55 : decode cX2_readBlock 55 = .ok (.aload_n 0, 1) := by decide +kernel
theorem dX2_readBlock_56 : decode cX2_readBlock 56 = .ok (.bipush 102, 2) := by decide +kernel
theorem dX2_readBlock_58 : decode cX2_readBlock 58 = .ok (.invokevirtual 46, 3) := by decide +kernel
theorem dX2_readBlock_61 : decode cX2_readBlock 61 = .ok (.ifCond .eq 11, 3) := by decide +kernel
theorem dX2_readBlock_64 : decode cX2_readBlock 64 = .ok (.aload_n 0, 1) := by decide +kernel
theorem dX2_readBlock_65 : decode cX2_readBlock 65 = .ok (.iload_n 1, 1) := by decide +kernel
theorem dX2_readBlock_66 : decode cX2_readBlock 66 = .ok (.iload_n 2, 1) := by decide +kernel
theorem dX2_readBlock_67 : decode cX2_readBlock 67 = .ok (.iload_n 3, 1) := by decide +kernel
theorem dX2_readBlock_68 : decode cX2_readBlock 68 = .ok (.invokevirtual 60, 3) := by decide +kernel
theorem dX2_readBlock_71 : decode cX2_readBlock 71 = .ok (.ireturn, 1) := by decide +kernel
theorem dX2_readBlock_72 : decode cX2_readBlock 72 = .ok (.iload_n 1, 1) := by decide +kernel
theorem dX2_readBlock_73 : decode cX2_readBlock 73 = .ok (.iconst 3, 1) := by decide +kernel
theorem dX2_readBlock_74 : decode cX2_readBlock 74 = .ok (.if_icmp .ge 26, 3) := by decide +kernel
theorem dX2_readBlock_77 : decode cX2_readBlock 77 = .ok (.aload_n 0, 1) := by decide +kernel
theorem dX2_readBlock_78 : decode cX2_readBlock 78 = .ok (.bipush 40, 2) := by decide +kernel
theorem dX2_readBlock_80 : decode cX2_readBlock 80 = .ok (.invokevirtual 46, 3) := by decide +kernel
theorem dX2_readBlock_83 : decode cX2_readBlock 83 = .ok (.ifCond .eq 17, 3) := by decide +kernel
theorem dX2_readBlock_86 : decode cX2_readBlock 86 = .ok (.aload_n 0, 1) := by decide +kernel
theorem dX2_readBlock_87 : decode cX2_readBlock 87 = .ok (.iload_n 1, 1) := by decide +kernel
theorem dX2_readBlock_88 : decode cX2_readBlock 88 = .ok (.iload_n 2, 1) := by decide +kernel
theorem dX2_readBlock_89 : decode cX2_readBlock 89 = .ok (.iload_n 3, 1) := by decide +kernel
theorem dX2_readBlock_90 : decode cX2_readBlock 90 = .ok (.invokevirtual 63, 3) := by decide +kernel
theorem dX2_readBlock_93 : decode cX2_readBlock 93 = .ok (.ifCond .eq 7, 3) := by decide +kernel
theorem dX2_readBlock_96 : decode cX2_readBlock 96 = .ok (.iconst 1, 1) := by decide +kernel
theorem dX2_readBlock_97 : decode cX2_readBlock 97 = .ok (.goto 4, 3) := by decide +kernel
theorem dX2_readBlock_100 : decode cX2_readBlock 100 = .ok (.iconst 0, 1) := by decide +kernel
theorem dX2_readBlock_101 : decode cX2_readBlock 101 = .ok (.ireturn, 1) := by decide +kernel
theorem dX2_readParts_0 : decode cX2_readParts 0 = .ok (.aload_n 0, 1) := by decide +kernel
theorem dX2_readParts_1 : decode cX2_readParts 1 = .ok (.getfield 22, 3) := by decide +kernel
theorem dX2_readParts_4 : decode cX2_readParts 4 = .ok (.iload_n 1, 1) := by decide +kernel
theorem dX2_readParts_5 : decode cX2_readParts 5 = .ok (.iload_n 2, 1) := by decide +kernel
theorem dX2_readParts_6 : decode cX2_readParts 6 = .ok (.iload_n 3, 1) := by decide +kernel
theorem dX2_readParts_7 : decode cX2_readParts 7 = .ok (.iconst 3, 1) := by decide +kernel
theorem dX2_readParts_8 : decode cX2_readParts 8 = .ok (.invokevirtual 66, 3) := by decide +kernel
theorem dX2_readParts_11 : decode cX2_readParts 11 = .ok (.iconst 0, 1) := by decide +kernel
theorem dX2_readParts_12 : decode cX2_readParts 12 = .ok (.istore 4, 2) := by decide +kernel
theorem dX2_readParts_14 : decode cX2_readParts 14 = .ok (.iload 4, 2) := by decide +kernel
theorem dX2_readParts_16 : decode cX2_readParts 16 = .ok (.iconst 4, 1) := by decide +kernel
theorem dX2_readParts_17 : decode cX2_readParts 17 = .ok (.if_icmp .ge 43, 3) := by decide +kernel
theorem dX2_readParts_20 : decode cX2_readParts 20 = .ok (.iload_n 1, 1) := by decide +kernel
theorem dX2_readParts_21 : decode cX2_readParts 21 = .ok (.iload_n 2, 1) := by decide +kernel
theorem dX2_readParts_22 : decode cX2_readParts 22 = .ok (.iload 4, 2) := by decide +kernel
theorem dX2_readParts_24 : decode cX2_readParts 24 = .ok (.invokestatic 70, 3) := by decide +kernel
theorem dX2_readParts_27 : decode cX2_readParts 27 = .ok (.istore 5, 2) := by decide +kernel
theorem dX2_readParts_29 : decode cX2_readParts 29 = .ok (.iload_n 1, 1) := by decide +kernel
theorem dX2_readParts_30 : decode cX2_readParts 30 = .ok (.iload_n 3, 1) := by decide +kernel
theorem dX2_readParts_31 : decode cX2_readParts 31 = .ok (.iload 4, 2) := by decide +kernel
theorem dX2_readParts_33 : decode cX2_readParts 33 = .ok (.invokestatic 74, 3) := by decide +kernel
theorem dX2_readParts_36 : decode cX2_readParts 36 = .ok (.istore 6, 2) := by decide +kernel
theorem dX2_readParts_38 : decode cX2_readParts 38 = .ok (.aload_n 0, 1) := by decide +kernel
theorem dX2_readParts_39 : decode cX2_readParts 39 = .ok (.iload_n 1, 1) := by decide +kernel
theorem dX2_readParts_40 : decode cX2_readParts 40 = .ok (.iconst 1, 1) := by decide +kernel
theorem dX2_readParts_41 : decode cX2_readParts 41 = .ok (.iadd, 1) := by decide +kernel
theorem dX2_readParts_42 : decode cX2_readParts 42 = .ok (.iload 5, 2) := by decide +kernel
theorem dX2_readParts_44 : decode cX2_readParts 44 = .ok (.iload 6, 2) := by decide +kernel
theorem dX2_readParts_46 : decode cX2_readParts 46 = .ok (.invokevirtual 42, 3) := by decide +kernel
theorem dX2_readParts_49 : decode cX2_readParts 49 = .ok (.ifCond .ne 5, 3) := by decide +kernel
theorem dX2_readParts_52 : decode cX2_readParts 52 = .ok (.iconst 0, 1) := by decide +kernel
theorem dX2_readParts_53 : decode cX2_readParts 53 = .ok (.ireturn, 1) := by decide +kernel
theorem dX2_readParts_54 : decode cX2_readParts 54 = .ok (.iinc 4 1, 3) := by decide +kernel
theorem dX2_readParts_57 : decode cX2_readParts 57 = .ok (.goto (-43), 3) := by decide +kernel
theorem dX2_readParts_60 : decode cX2_readParts 60 = .ok (.aload_n 0, 1) := by decide +kernel
theorem dX2_readParts_61 : decode cX2_readParts 61 = .ok (.bipush 41, 2) := by decide +kernel
theorem dX2_readParts_63 : decode cX2_readParts 63 = .ok (.invokevirtual 46, 3) := by decide +kernel
theorem dX2_readParts_66 : decode cX2_readParts 66 = .ok (.ireturn, 1) := by decide +kernel
theorem dX2_readSame_0 : decode cX2_readSame 0 = .ok (.aload_n 0, 1) := by decide +kernel
theorem dX2_readSame_1 : decode cX2_readSame 1 = .ok (.invokevirtual 77, 3) := by decide +kernel
theorem dX2_readSame_4 : decode cX2_readSame 4 = .ok (.ifCond .ne 5, 3) := by decide +kernel
theorem dX2_readSame_7 : decode cX2_readSame 7 = .ok (.iconst 0, 1) := by decide +kernel
theorem dX2_readSame_8 : decode cX2_readSame 8 = .ok (.ireturn, 1) := by decide +kernel
theorem dX2_readSame_9 : decode cX2_readSame 9 = .ok (.iconst 0, 1) := by decide +kernel
theorem dX2_readSame_10 : decode cX2_readSame 10 = .ok (.istore 4, 2) := by decide +kernel
theorem dX2_readSame_12 : decode cX2_readSame 12 = .ok (.iload 4, 2) := by decide +kernel
theorem dX2_readSame_14 : decode cX2_readSame 14 = .ok (.bipush 16, 2) := by decide +kernel
theorem dX2_readSame_16 : decode cX2_readSame 16 = .ok (.if_icmp .ge 28, 3) := by decide +kernel
theorem dX2_readSame_19 : decode cX2_readSame 19 = .ok (.aload_n 0, 1) := by decide +kernel
theorem dX2_readSame_20 : decode cX2_readSame 20 = .ok (.getfield 26, 3) := by decide +kernel
theorem dX2_readSame_23 : decode cX2_readSame 23 = .ok (.iload 4, 2) := by decide +kernel
theorem dX2_readSame_25 : decode cX2_readSame 25 = .ok (.aload_n 0, 1) := by decide +kernel
theorem dX2_readSame_26 : decode cX2_readSame 26 = .ok (.getfield 39, 3) := by decide +kernel
theorem dX2_readSame_29 : decode cX2_readSame 29 = .ok (.iastore, 1) := by decide +kernel
theorem dX2_readSame_30 : decode cX2_readSame 30 = .ok (.aload_n 0, 1) := by decide +kernel
theorem dX2_readSame_31 : decode cX2_readSame 31 = .ok (.getfield 30, 3) := by decide +kernel
theorem dX2_readSame_34 : decode cX2_readSame 34 = .ok (.iload 4, 2) := by decide +kernel
theorem dX2_readSame_36 : decode cX2_readSame 36 = .ok (.iconst 1, 1) := by decide +kernel
theorem dX2_readSame_37 : decode cX2_readSame 37 = .ok (.iastore, 1) := by decide +kernel
theorem dX2_readSame_38 : decode cX2_readSame 38 = .ok (.iinc 4 1, 3) := by decide +kernel
theorem dX2_readSame_41 : decode cX2_readSame 41 = .ok (.goto (-29), 3) := by decide +kernel
theorem dX2_readSame_44 : decode cX2_readSame 44 = .ok (.aload_n 0, 1) := by decide +kernel
theorem dX2_readSame_45 : decode cX2_readSame 45 = .ok (.getfield 22, 3) := by decide +kernel
theorem dX2_readSame_48 : decode cX2_readSame 48 = .ok (.iload_n 1, 1) := by decide +kernel
theorem dX2_readSame_49 : decode cX2_readSame 49 = .ok (.iload_n 2, 1) := by decide +kernel
theorem dX2_readSame_50 : decode cX2_readSame 50 = .ok (.iload_n 3, 1) := by decide +kernel
theorem dX2_readSame_51 : decode cX2_readSame 51 = .ok (.aload_n 0, 1) := by decide +kernel
theorem dX2_readSame_52 : decode cX2_readSame 52 = .ok (.getfield 26, 3) := by decide +kernel
theorem dX2_readSame_55 : decode cX2_readSame 55 = .ok (.aload_n 0, 1) := by decide +kernel
theorem dX2_readSame_56 : decode cX2_readSame 56 = .ok (.getfield 30, 3) := by decide +kernel
theorem dX2_readSame_59 : decode cX2_readSame 59 = .ok (.invokevirtual 81, 3) := by decide +kernel
theorem dX2_readSame_62 : decode cX2_readSame 62 = .ok (.iconst 1, 1) := by decide +kernel
theorem dX2_readSame_63 : decode cX2_readSame 63 = .ok (.ireturn, 1) := by decide +kernel
theorem dX2_readProduct_0 : decode cX2_readProduct 0 = .ok (.iload_n 1, 1) := by decide +kernel
theorem dX2_readProduct_1 : decode cX2_readProduct 1 = .ok (.invokestatic 85, 3) := by decide +kernel
theorem dX2_readProduct_4 : decode cX2_readProduct 4 = .ok (.istore 4, 2) := by decide +kernel
theorem dX2_readProduct_6 : decode cX2_readProduct 6 = .ok (.aload_n 0, 1) := by decide +kernel
theorem dX2_readProduct_7 : decode cX2_readProduct 7 = .ok (.aload_n 0, 1) := by decide +kernel
theorem dX2_readProduct_8 : decode cX2_readProduct 8 = .ok (.getfield 26, 3) := by decide +kernel
theorem dX2_readProduct_11 : decode cX2_readProduct 11 = .ok (.iload 4, 2) := by decide +kernel
theorem dX2_readProduct_13 : decode cX2_readProduct 13 = .ok (.invokevirtual 89, 3) := by decide +kernel
theorem dX2_readProduct_16 : decode cX2_readProduct 16 = .ok (.ifCond .eq 25, 3) := by decide +kernel
theorem dX2_readProduct_19 : decode cX2_readProduct 19 = .ok (.aload_n 0, 1) := by decide +kernel
theorem dX2_readProduct_20 : decode cX2_readProduct 20 = .ok (.bipush 118, 2) := by decide +kernel
theorem dX2_readProduct_22 : decode cX2_readProduct 22 = .ok (.invokevirtual 46, 3) := by decide +kernel
theorem dX2_readProduct_25 : decode cX2_readProduct 25 = .ok (.ifCond .eq 16, 3) := by decide +kernel
theorem dX2_readProduct_28 : decode cX2_readProduct 28 = .ok (.aload_n 0, 1) := by decide +kernel
theorem dX2_readProduct_29 : decode cX2_readProduct 29 = .ok (.aload_n 0, 1) := by decide +kernel
theorem dX2_readProduct_30 : decode cX2_readProduct 30 = .ok (.getfield 30, 3) := by decide +kernel
theorem dX2_readProduct_33 : decode cX2_readProduct 33 = .ok (.iload 4, 2) := by decide +kernel
theorem dX2_readProduct_35 : decode cX2_readProduct 35 = .ok (.invokevirtual 89, 3) := by decide +kernel
theorem dX2_readProduct_38 : decode cX2_readProduct 38 = .ok (.ifCond .ne 5, 3) := by decide +kernel
theorem dX2_readProduct_41 : decode cX2_readProduct 41 = .ok (.iconst 0, 1) := by decide +kernel
theorem dX2_readProduct_42 : decode cX2_readProduct 42 = .ok (.ireturn, 1) := by decide +kernel
theorem dX2_readProduct_43 : decode cX2_readProduct 43 = .ok (.aload_n 0, 1) := by decide +kernel
theorem dX2_readProduct_44 : decode cX2_readProduct 44 = .ok (.getfield 22, 3) := by decide +kernel
theorem dX2_readProduct_47 : decode cX2_readProduct 47 = .ok (.iload_n 1, 1) := by decide +kernel
theorem dX2_readProduct_48 : decode cX2_readProduct 48 = .ok (.iload_n 2, 1) := by decide +kernel
theorem dX2_readProduct_49 : decode cX2_readProduct 49 = .ok (.iload_n 3, 1) := by decide +kernel
theorem dX2_readProduct_50 : decode cX2_readProduct 50 = .ok (.aload_n 0, 1) := by decide +kernel
theorem dX2_readProduct_51 : decode cX2_readProduct 51 = .ok (.getfield 26, 3) := by decide +kernel
theorem dX2_readProduct_54 : decode cX2_readProduct 54 = .ok (.aload_n 0, 1) := by decide +kernel
theorem dX2_readProduct_55 : decode cX2_readProduct 55 = .ok (.getfield 30, 3) := by decide +kernel
theorem dX2_readProduct_58 : decode cX2_readProduct 58 = .ok (.invokevirtual 81, 3) := by decide +kernel
theorem dX2_readProduct_61 : decode cX2_readProduct 61 = .ok (.iconst 1, 1) := by decide +kernel
theorem dX2_readProduct_62 : decode cX2_readProduct 62 = .ok (.ireturn, 1) := by decide +kernel
theorem dX2_readFull_0 : decode cX2_readFull 0 = .ok (.iload_n 1, 1) := by decide +kernel
theorem dX2_readFull_1 : decode cX2_readFull 1 = .ok (.invokestatic 85, 3) := by decide +kernel
theorem dX2_readFull_4 : decode cX2_readFull 4 = .ok (.istore 4, 2) := by decide +kernel
theorem dX2_readFull_6 : decode cX2_readFull 6 = .ok (.aload_n 0, 1) := by decide +kernel
theorem dX2_readFull_7 : decode cX2_readFull 7 = .ok (.aload_n 0, 1) := by decide +kernel
theorem dX2_readFull_8 : decode cX2_readFull 8 = .ok (.getfield 33, 3) := by decide +kernel
theorem dX2_readFull_11 : decode cX2_readFull 11 = .ok (.iload 4, 2) := by decide +kernel
theorem dX2_readFull_13 : decode cX2_readFull 13 = .ok (.iload 4, 2) := by decide +kernel
theorem dX2_readFull_15 : decode cX2_readFull 15 = .ok (.imul, 1) := by decide +kernel
theorem dX2_readFull_16 : decode cX2_readFull 16 = .ok (.invokevirtual 89, 3) := by decide +kernel
theorem dX2_readFull_19 : decode cX2_readFull 19 = .ok (.ifCond .ne 5, 3) := by decide +kernel
theorem dX2_readFull_22 : decode cX2_readFull 22 = .ok (.iconst 0, 1) := by decide +kernel
theorem dX2_readFull_23 : decode cX2_readFull 23 = .ok (.ireturn, 1) := by decide +kernel
theorem dX2_readFull_24 : decode cX2_readFull 24 = .ok (.aload_n 0, 1) := by decide +kernel
theorem dX2_readFull_25 : decode cX2_readFull 25 = .ok (.getfield 22, 3) := by decide +kernel
theorem dX2_readFull_28 : decode cX2_readFull 28 = .ok (.iload_n 1, 1) := by decide +kernel
theorem dX2_readFull_29 : decode cX2_readFull 29 = .ok (.iload_n 2, 1) := by decide +kernel
theorem dX2_readFull_30 : decode cX2_readFull 30 = .ok (.iload_n 3, 1) := by decide +kernel
theorem dX2_readFull_31 : decode cX2_readFull 31 = .ok (.aload_n 0, 1) := by decide +kernel
theorem dX2_readFull_32 : decode cX2_readFull 32 = .ok (.getfield 33, 3) := by decide +kernel
theorem dX2_readFull_35 : decode cX2_readFull 35 = .ok (.invokevirtual 93, 3) := by decide +kernel
theorem dX2_readFull_38 : decode cX2_readFull 38 = .ok (.iconst 1, 1) := by decide +kernel
theorem dX2_readFull_39 : decode cX2_readFull 39 = .ok (.ireturn, 1) := by decide +kernel
theorem dX2_readValues_0 : decode cX2_readValues 0 = .ok (.iload_n 2, 1) := by decide +kernel
theorem dX2_readValues_1 : decode cX2_readValues 1 = .ok (.aload_n 1, 1) := by decide +kernel
theorem dX2_readValues_2 : decode cX2_readValues 2 = .ok (.arraylength, 1) := by decide +kernel
theorem dX2_readValues_3 : decode cX2_readValues 3 = .ok (.invokestatic 97, 3) := by decide +kernel
theorem dX2_readValues_6 : decode cX2_readValues 6 = .ok (.istore_n 3, 1) := by decide +kernel
theorem dX2_readValues_7 : decode cX2_readValues 7 = .ok (.iconst 0, 1) := by decide +kernel
theorem dX2_readValues_8 : decode cX2_readValues 8 = .ok (.istore 4, 2) := by decide +kernel
theorem dX2_readValues_10 : decode cX2_readValues 10 = .ok (.iconst 1, 1) := by decide +kernel
theorem dX2_readValues_11 : decode cX2_readValues 11 = .ok (.istore 5, 2) := by decide +kernel
theorem dX2_readValues_13 : decode cX2_readValues 13 = .ok (.iconst 0, 1) := by decide +kernel
theorem dX2_readValues_14 : decode cX2_readValues 14 = .ok (.istore 6, 2) := by decide +kernel
theorem dX2_readValues_16 : decode cX2_readValues 16 = .ok (.iload 5, 2) := by decide +kernel
theorem dX2_readValues_18 : decode cX2_readValues 18 = .ok (.ifCond .eq 50, 3) := by decide +kernel
theorem dX2_readValues_21 : decode cX2_readValues 21 = .ok (.iload 6, 2) := by decide +kernel
theorem dX2_readValues_23 : decode cX2_readValues 23 = .ok (.bipush 80, 2) := by decide +kernel
theorem dX2_readValues_25 : decode cX2_readValues 25 = .ok (.if_icmp .ge 43, 3) := by decide +kernel
theorem dX2_readValues_28 : decode cX2_readValues 28 = .ok (.aload_n 0, 1) := by decide +kernel
theorem dX2_readValues_29 : decode cX2_readValues 29 = .ok (.invokevirtual 77, 3) := by decide +kernel
theorem dX2_readValues_32 : decode cX2_readValues 32 = .ok (.ifCond .ne 5, 3) := by decide +kernel
theorem dX2_readValues_35 : decode cX2_readValues 35 = .ok (.iconst 0, 1) := by decide +kernel
theorem dX2_readValues_36 : decode cX2_readValues 36 = .ok (.ireturn, 1) := by decide +kernel
theorem dX2_readValues_37 : decode cX2_readValues 37 = .ok (.iload 4, 2) := by decide +kernel
theorem dX2_readValues_39 : decode cX2_readValues 39 = .ok (.iload_n 3, 1) := by decide +kernel
theorem dX2_readValues_40 : decode cX2_readValues 40 = .ok (.if_icmp .ge 14, 3) := by decide +kernel
theorem dX2_readValues_43 : decode cX2_readValues 43 = .ok (.aload_n 1, 1) := by decide +kernel
theorem dX2_readValues_44 : decode cX2_readValues 44 = .ok (.iload 4, 2) := by decide +kernel
theorem dX2_readValues_46 : decode cX2_readValues 46 = .ok (.aload_n 0, 1) := by decide +kernel
theorem dX2_readValues_47 : decode cX2_readValues 47 = .ok (.getfield 39, 3) := by decide +kernel
theorem dX2_readValues_50 : decode cX2_readValues 50 = .ok (.iastore, 1) := by decide +kernel
theorem dX2_readValues_51 : decode cX2_readValues 51 = .ok (.iinc 4 1, 3) := by decide +kernel
theorem dX2_readValues_54 : decode cX2_readValues 54 = .ok (.aload_n 0, 1) := by decide +kernel
theorem dX2_readValues_55 : decode cX2_readValues 55 = .ok (.bipush 44, 2) := by decide +kernel
theorem dX2_readValues_57 : decode cX2_readValues 57 = .ok (.invokevirtual 46, 3) := by decide +kernel
theorem dX2_readValues_60 : decode cX2_readValues 60 = .ok (.istore 5, 2) := by decide +kernel
theorem dX2_readValues_62 : decode cX2_readValues 62 = .ok (.iinc 6 1, 3) := by decide +kernel
theorem dX2_readValues_65 : decode cX2_readValues 65 = .ok (.goto (-49), 3) := by decide +kernel
theorem dX2_readValues_68 : decode cX2_readValues 68 = .ok (.iload 4, 2) := by decide +kernel
theorem dX2_readValues_70 : decode cX2_readValues 70 = .ok (.istore 6, 2) := by decide +kernel
theorem dX2_readValues_72 : decode cX2_readValues 72 = .ok (.iload 6, 2) := by decide +kernel
theorem dX2_readValues_74 : decode cX2_readValues 74 = .ok (.iload_n 3, 1) := by decide +kernel
theorem dX2_readValues_75 : decode cX2_readValues 75 = .ok (.if_icmp .ge 17, 3) := by decide +kernel
theorem dX2_readValues_78 : decode cX2_readValues 78 = .ok (.aload_n 1, 1) := by decide +kernel
theorem dX2_readValues_79 : decode cX2_readValues 79 = .ok (.iload 6, 2) := by decide +kernel
theorem dX2_readValues_81 : decode cX2_readValues 81 = .ok (.aload_n 0, 1) := by decide +kernel
theorem dX2_readValues_82 : decode cX2_readValues 82 = .ok (.getfield 39, 3) := by decide +kernel
theorem dX2_readValues_85 : decode cX2_readValues 85 = .ok (.iastore, 1) := by decide +kernel
theorem dX2_readValues_86 : decode cX2_readValues 86 = .ok (.iinc 6 1, 3) := by decide +kernel
theorem dX2_readValues_89 : decode cX2_readValues 89 = .ok (.goto (-17), 3) := by decide +kernel
theorem dX2_readValues_92 : decode cX2_readValues 92 = .ok (.iconst 1, 1) := by decide +kernel
theorem dX2_readValues_93 : decode cX2_readValues 93 = .ok (.ireturn, 1) := by decide +kernel
theorem dX2_readValue_0 : decode cX2_readValue 0 = .ok (.aload_n 0, 1) := by decide +kernel
theorem dX2_readValue_1 : decode cX2_readValue 1 = .ok (.bipush 45, 2) := by decide +kernel
theorem dX2_readValue_3 : decode cX2_readValue 3 = .ok (.invokevirtual 46, 3) := by decide +kernel
theorem dX2_readValue_6 : decode cX2_readValue 6 = .ok (.istore_n 1, 1) := by decide +kernel
theorem dX2_readValue_7 : decode cX2_readValue 7 = .ok (.aload_n 0, 1) := by decide +kernel
theorem dX2_readValue_8 : decode cX2_readValue 8 = .ok (.iconst 0, 1) := by decide +kernel
theorem dX2_readValue_9 : decode cX2_readValue 9 = .ok (.putfield 39, 3) := by decide +kernel
theorem dX2_readValue_12 : decode cX2_readValue 12 = .ok (.aload_n 0, 1) := by decide +kernel
theorem dX2_readValue_13 : decode cX2_readValue 13 = .ok (.bipush 48, 2) := by decide +kernel
theorem dX2_readValue_15 : decode cX2_readValue 15 = .ok (.invokevirtual 46, 3) := by decide +kernel
theorem dX2_readValue_18 : decode cX2_readValue 18 = .ok (.ifCond .eq 5, 3) := by decide +kernel
theorem dX2_readValue_21 : decode cX2_readValue 21 = .ok (.iconst 1, 1) := by decide +kernel
theorem dX2_readValue_22 : decode cX2_readValue 22 = .ok (.ireturn, 1) := by decide +kernel
theorem dX2_readValue_23 : decode cX2_readValue 23 = .ok (.aload_n 0, 1) := by decide +kernel
theorem dX2_readValue_24 : decode cX2_readValue 24 = .ok (.invokevirtual 103, 3) := by decide +kernel
theorem dX2_readValue_27 : decode cX2_readValue 27 = .ok (.ifCond .ge 5, 3) := by decide +kernel
theorem dX2_readValue_30 : decode cX2_readValue 30 = .ok (.iconst 0, 1) := by decide +kernel
theorem dX2_readValue_31 : decode cX2_readValue 31 = .ok (.ireturn, 1) := by decide +kernel
theorem dX2_readValue_32 : decode cX2_readValue 32 = .ok (.iconst 0, 1) := by decide +kernel
theorem dX2_readValue_33 : decode cX2_readValue 33 = .ok (.istore_n 2, 1) := by decide +kernel
theorem dX2_readValue_34 : decode cX2_readValue 34 = .ok (.aload_n 0, 1) := by decide +kernel
theorem dX2_readValue_35 : decode cX2_readValue 35 = .ok (.invokevirtual 103, 3) := by decide +kernel
theorem dX2_readValue_38 : decode cX2_readValue 38 = .ok (.ifCond .lt 53, 3) := by decide +kernel
theorem dX2_readValue_41 : decode cX2_readValue 41 = .ok (.iload_n 2, 1) := by decide +kernel
theorem dX2_readValue_42 : decode cX2_readValue 42 = .ok (.bipush 80, 2) := by decide +kernel
theorem dX2_readValue_44 : decode cX2_readValue 44 = .ok (.if_icmp .ge 47, 3) := by decide +kernel
theorem dX2_readValue_47 : decode cX2_readValue 47 = .ok (.aload_n 0, 1) := by decide +kernel
theorem dX2_readValue_48 : decode cX2_readValue 48 = .ok (.aload_n 0, 1) := by decide +kernel
theorem dX2_readValue_49 : decode cX2_readValue 49 = .ok (.getfield 39, 3) := by decide +kernel
theorem dX2_readValue_52 : decode cX2_readValue 52 = .ok (.bipush 10, 2) := by decide +kernel
theorem dX2_readValue_54 : decode cX2_readValue 54 = .ok (.imul, 1) := by decide +kernel
theorem dX2_readValue_55 : decode cX2_readValue 55 = .ok (.aload_n 0, 1) := by decide +kernel
theorem dX2_readValue_56 : decode cX2_readValue 56 = .ok (.invokevirtual 103, 3) := by decide +kernel
theorem dX2_readValue_59 : decode cX2_readValue 59 = .ok (.iadd, 1) := by decide +kernel
theorem dX2_readValue_60 : decode cX2_readValue 60 = .ok (.putfield 39, 3) := by decide +kernel
theorem dX2_readValue_63 : decode cX2_readValue 63 = .ok (.aload_n 0, 1) := by decide +kernel
theorem dX2_readValue_64 : decode cX2_readValue 64 = .ok (.getfield 39, 3) := by decide +kernel
theorem dX2_readValue_67 : decode cX2_readValue 67 = .ok (.sipush 999, 3) := by decide +kernel
theorem dX2_readValue_70 : decode cX2_readValue 70 = .ok (.if_icmp .le 5, 3) := by decide +kernel
theorem dX2_readValue_73 : decode cX2_readValue 73 = .ok (.iconst 0, 1) := by decide +kernel
theorem dX2_readValue_74 : decode cX2_readValue 74 = .ok (.ireturn, 1) := by decide +kernel
theorem dX2_readValue_75 : decode cX2_readValue 75 = .ok (.aload_n 0, 1) := by decide +kernel
theorem dX2_readValue_76 : decode cX2_readValue 76 = .ok (.dup, 1) := by decide +kernel
theorem dX2_readValue_77 : decode cX2_readValue 77 = .ok (.getfield 36, 3) := by decide +kernel
theorem dX2_readValue_80 : decode cX2_readValue 80 = .ok (.iconst 1, 1) := by decide +kernel
theorem dX2_readValue_81 : decode cX2_readValue 81 = .ok (.iadd, 1) := by decide +kernel
theorem dX2_readValue_82 : decode cX2_readValue 82 = .ok (.putfield 36, 3) := by decide +kernel
theorem dX2_readValue_85 : decode cX2_readValue 85 = .ok (.iinc 2 1, 3) := by decide +kernel
theorem dX2_readValue_88 : decode cX2_readValue 88 = .ok (.goto (-54), 3) := by decide +kernel
theorem dX2_readValue_91 : decode cX2_readValue 91 = .ok (.aload_n 0, 1) := by decide +kernel
theorem dX2_readValue_92 : decode cX2_readValue 92 = .ok (.iload_n 1, 1) := by decide +kernel
theorem dX2_readValue_93 : decode cX2_readValue 93 = .ok (.ifCond .eq 11, 3) := by decide +kernel
theorem dX2_readValue_96 : decode cX2_readValue 96 = .ok (.aload_n 0, 1) := by decide +kernel
theorem dX2_readValue_97 : decode cX2_readValue 97 = .ok (.getfield 39, 3) := by decide +kernel
theorem dX2_readValue_100 : decode cX2_readValue 100 = .ok (.ineg, 1) := by decide +kernel
theorem dX2_readValue_101 : decode cX2_readValue 101 = .ok (.goto 7, 3) := by decide +kernel
theorem dX2_readValue_104 : decode cX2_readValue 104 = .ok (.aload_n 0, 1) := by decide +kernel
theorem dX2_readValue_105 : decode cX2_readValue 105 = .ok (.getfield 39, 3) := by decide +kernel
theorem dX2_readValue_108 : decode cX2_readValue 108 = .ok (.putfield 39, 3) := by decide +kernel
theorem dX2_readValue_111 : decode cX2_readValue 111 = .ok (.iconst 1, 1) := by decide +kernel
theorem dX2_readValue_112 : decode cX2_readValue 112 = .ok (.ireturn, 1) := by decide +kernel
theorem dX2_passes_0 : decode cX2_passes 0 = .ok (.aload_n 0, 1) := by decide +kernel
theorem dX2_passes_1 : decode cX2_passes 1 = .ok (.getfield 36, 3) := by decide +kernel
theorem dX2_passes_4 : decode cX2_passes 4 = .ok (.aload_n 0, 1) := by decide +kernel
theorem dX2_passes_5 : decode cX2_passes 5 = .ok (.getfield 15, 3) := by decide +kernel
theorem dX2_passes_8 : decode cX2_passes 8 = .ok (.if_icmp .ge 25, 3) := by decide +kernel
theorem dX2_passes_11 : decode cX2_passes 11 = .ok (.aload_n 0, 1) := by decide +kernel
theorem dX2_passes_12 : decode cX2_passes 12 = .ok (.getfield 36, 3) := by decide +kernel
theorem dX2_passes_15 : decode cX2_passes 15 = .ok (.bipush 80, 2) := by decide +kernel
theorem dX2_passes_17 : decode cX2_passes 17 = .ok (.if_icmp .ge 16, 3) := by decide +kernel
theorem dX2_passes_20 : decode cX2_passes 20 = .ok (.aload_n 0, 1) := by decide +kernel
theorem dX2_passes_21 : decode cX2_passes 21 = .ok (.getfield 9, 3) := by decide +kernel
theorem dX2_passes_24 : decode cX2_passes 24 = .ok (.aload_n 0, 1) := by decide +kernel
theorem dX2_passes_25 : decode cX2_passes 25 = .ok (.getfield 36, 3) := by decide +kernel
theorem dX2_passes_28 : decode cX2_passes 28 = .ok (.caload, 1) := by decide +kernel
theorem dX2_passes_29 : decode cX2_passes 29 = .ok (.iload_n 1, 1) := by decide +kernel
theorem dX2_passes_30 : decode cX2_passes 30 = .ok (.if_icmp .eq 5, 3) := by decide +kernel
theorem dX2_passes_33 : decode cX2_passes 33 = .ok (.iconst 0, 1) := by decide +kernel
theorem dX2_passes_34 : decode cX2_passes 34 = .ok (.ireturn, 1) := by decide +kernel
theorem dX2_passes_35 : decode cX2_passes 35 = .ok (.aload_n 0, 1) := by decide +kernel
theorem dX2_passes_36 : decode cX2_passes 36 = .ok (.dup, 1) := by decide +kernel
theorem dX2_passes_37 : decode cX2_passes 37 = .ok (.getfield 36, 3) := by decide +kernel
theorem dX2_passes_40 : decode cX2_passes 40 = .ok (.iconst 1, 1) := by decide +kernel
theorem dX2_passes_41 : decode cX2_passes 41 = .ok (.iadd, 1) := by decide +kernel
theorem dX2_passes_42 : decode cX2_passes 42 = .ok (.putfield 36, 3) := by decide +kernel
theorem dX2_passes_45 : decode cX2_passes 45 = .ok (.iconst 1, 1) := by decide +kernel
theorem dX2_passes_46 : decode cX2_passes 46 = .ok (.ireturn, 1) := by decide +kernel
theorem dX2_digit_0 : decode cX2_digit 0 = .ok (.aload_n 0, 1) := by decide +kernel
theorem dX2_digit_1 : decode cX2_digit 1 = .ok (.getfield 36, 3) := by decide +kernel
theorem dX2_digit_4 : decode cX2_digit 4 = .ok (.aload_n 0, 1) := by decide +kernel
theorem dX2_digit_5 : decode cX2_digit 5 = .ok (.getfield 15, 3) := by decide +kernel
theorem dX2_digit_8 : decode cX2_digit 8 = .ok (.if_icmp .ge 40, 3) := by decide +kernel
theorem dX2_digit_11 : decode cX2_digit 11 = .ok (.aload_n 0, 1) := by decide +kernel
theorem dX2_digit_12 : decode cX2_digit 12 = .ok (.getfield 36, 3) := by decide +kernel
theorem dX2_digit_15 : decode cX2_digit 15 = .ok (.bipush 80, 2) := by decide +kernel
theorem dX2_digit_17 : decode cX2_digit 17 = .ok (.if_icmp .ge 31, 3) := by decide +kernel
theorem dX2_digit_20 : decode cX2_digit 20 = .ok (.aload_n 0, 1) := by decide +kernel
theorem dX2_digit_21 : decode cX2_digit 21 = .ok (.getfield 9, 3) := by decide +kernel
theorem dX2_digit_24 : decode cX2_digit 24 = .ok (.aload_n 0, 1) := by decide +kernel
theorem dX2_digit_25 : decode cX2_digit 25 = .ok (.getfield 36, 3) := by decide +kernel
theorem dX2_digit_28 : decode cX2_digit 28 = .ok (.caload, 1) := by decide +kernel
theorem dX2_digit_29 : decode cX2_digit 29 = .ok (.bipush 48, 2) := by decide +kernel
theorem dX2_digit_31 : decode cX2_digit 31 = .ok (.if_icmp .lt 17, 3) := by decide +kernel
theorem dX2_digit_34 : decode cX2_digit 34 = .ok (.aload_n 0, 1) := by decide +kernel
theorem dX2_digit_35 : decode cX2_digit 35 = .ok (.getfield 9, 3) := by decide +kernel
theorem dX2_digit_38 : decode cX2_digit 38 = .ok (.aload_n 0, 1) := by decide +kernel
theorem dX2_digit_39 : decode cX2_digit 39 = .ok (.getfield 36, 3) := by decide +kernel
theorem dX2_digit_42 : decode cX2_digit 42 = .ok (.caload, 1) := by decide +kernel
theorem dX2_digit_43 : decode cX2_digit 43 = .ok (.bipush 57, 2) := by decide +kernel
theorem dX2_digit_45 : decode cX2_digit 45 = .ok (.if_icmp .le 5, 3) := by decide +kernel
theorem dX2_digit_48 : decode cX2_digit 48 = .ok (.iconst (-1), 1) := by decide +kernel
theorem dX2_digit_49 : decode cX2_digit 49 = .ok (.ireturn, 1) := by decide +kernel
theorem dX2_digit_50 : decode cX2_digit 50 = .ok (.aload_n 0, 1) := by decide +kernel
theorem dX2_digit_51 : decode cX2_digit 51 = .ok (.getfield 9, 3) := by decide +kernel
theorem dX2_digit_54 : decode cX2_digit 54 = .ok (.aload_n 0, 1) := by decide +kernel
theorem dX2_digit_55 : decode cX2_digit 55 = .ok (.getfield 36, 3) := by decide +kernel
theorem dX2_digit_58 : decode cX2_digit 58 = .ok (.caload, 1) := by decide +kernel
theorem dX2_digit_59 : decode cX2_digit 59 = .ok (.bipush 48, 2) := by decide +kernel
theorem dX2_digit_61 : decode cX2_digit 61 = .ok (.isub, 1) := by decide +kernel
theorem dX2_digit_62 : decode cX2_digit 62 = .ok (.ireturn, 1) := by decide +kernel
theorem dX3_init_0 : decode cX3_init 0 = .ok (.aload_n 0, 1) := by decide +kernel
theorem dX3_init_1 : decode cX3_init 1 = .ok (.invokespecial 1, 3) := by decide +kernel
theorem dX3_init_4 : decode cX3_init 4 = .ok (.aload_n 0, 1) := by decide +kernel
theorem dX3_init_5 : decode cX3_init 5 = .ok (.new 7, 3) := by decide +kernel
theorem dX3_init_8 : decode cX3_init 8 = .ok (.dup, 1) := by decide +kernel
theorem dX3_init_9 : decode cX3_init 9 = .ok (.invokespecial 9, 3) := by decide +kernel
theorem dX3_init_12 : decode cX3_init 12 = .ok (.putfield 10, 3) := by decide +kernel
theorem dX3_init_15 : decode cX3_init 15 = .ok (.aload_n 0, 1) := by decide +kernel
theorem dX3_init_16 : decode cX3_init 16 = .ok (.iconst 0, 1) := by decide +kernel
theorem dX3_init_17 : decode cX3_init 17 = .ok (.putfield 16, 3) := by decide +kernel
theorem dX3_init_20 : decode cX3_init 20 = .ok (.return_, 1) := by decide +kernel
theorem dX4_init_0 : decode cX4_init 0 = .ok (.aload_n 0, 1) := by decide +kernel
theorem dX4_init_1 : decode cX4_init 1 = .ok (.invokespecial 3, 3) := by decide +kernel
theorem dX4_init_4 : decode cX4_init 4 = .ok (.aload_n 0, 1) := by decide +kernel
theorem dX4_init_5 : decode cX4_init 5 = .ok (.iconst 4, 1) := by decide +kernel
theorem dX4_init_6 : decode cX4_init 6 = .ok (.anewarray 9, 3) := by decide +kernel
theorem dX4_init_9 : decode cX4_init 9 = .ok (.putfield 11, 3) := by decide +kernel
theorem dX4_init_12 : decode cX4_init 12 = .ok (.aload_n 0, 1) := by decide +kernel
theorem dX4_init_13 : decode cX4_init 13 = .ok (.iconst 0, 1) := by decide +kernel
theorem dX4_init_14 : decode cX4_init 14 = .ok (.putfield 17, 3) := by decide +kernel
theorem dX4_init_17 : decode cX4_init 17 = .ok (.iconst 0, 1) := by decide +kernel
theorem dX4_init_18 : decode cX4_init 18 = .ok (.istore_n 1, 1) := by decide +kernel
theorem dX4_init_19 : decode cX4_init 19 = .ok (.iload_n 1, 1) := by decide +kernel
theorem dX4_init_20 : decode cX4_init 20 = .ok (.iconst 4, 1) := by decide +kernel
theorem dX4_init_21 : decode cX4_init 21 = .ok (.if_icmp .ge 22, 3) := by decide +kernel
theorem dX4_init_24 : decode cX4_init 24 = .ok (.aload_n 0, 1) := by decide +kernel
theorem dX4_init_25 : decode cX4_init 25 = .ok (.getfield 11, 3) := by decide +kernel
theorem dX4_init_28 : decode cX4_init 28 = .ok (.iload_n 1, 1) := by decide +kernel
theorem dX4_init_29 : decode cX4_init 29 = .ok (.new 9, 3) := by decide +kernel
theorem dX4_init_32 : decode cX4_init 32 = .ok (.dup, 1) := by decide +kernel
theorem dX4_init_33 : decode cX4_init 33 = .ok (.invokespecial 21, 3) := by decide +kernel
theorem dX4_init_36 : decode cX4_init 36 = .ok (.aastore, 1) := by decide +kernel
theorem dX4_init_37 : decode cX4_init 37 = .ok (.iinc 1 1, 3) := by decide +kernel
theorem dX4_init_40 : decode cX4_init 40 = .ok (.goto (-21), 3) := by decide +kernel
theorem dX4_init_43 : decode cX4_init 43 = .ok (.return_, 1) := by decide +kernel
theorem dX4_become_0 : decode cX4_become 0 = .ok (.iconst 0, 1) := by decide +kernel
theorem dX4_become_1 : decode cX4_become 1 = .ok (.istore_n 2, 1) := by decide +kernel
theorem dX4_become_2 : decode cX4_become 2 = .ok (.iload_n 2, 1) := by decide +kernel
theorem dX4_become_3 : decode cX4_become 3 = .ok (.iconst 4, 1) := by decide +kernel
theorem dX4_become_4 : decode cX4_become 4 = .ok (.if_icmp .ge 24, 3) := by decide +kernel
theorem dX4_become_7 : decode cX4_become 7 = .ok (.aload_n 0, 1) := by decide +kernel
theorem dX4_become_8 : decode cX4_become 8 = .ok (.getfield 11, 3) := by decide +kernel
theorem dX4_become_11 : decode cX4_become 11 = .ok (.iload_n 2, 1) := by decide +kernel
theorem dX4_become_12 : decode cX4_become 12 = .ok (.aaload, 1) := by decide +kernel
theorem dX4_become_13 : decode cX4_become 13 = .ok (.aload_n 1, 1) := by decide +kernel
theorem dX4_become_14 : decode cX4_become 14 = .ok (.getfield 11, 3) := by decide +kernel
theorem dX4_become_17 : decode cX4_become 17 = .ok (.iload_n 2, 1) := by decide +kernel
theorem dX4_become_18 : decode cX4_become 18 = .ok (.aaload, 1) := by decide +kernel
theorem dX4_become_19 : decode cX4_become 19 = .ok (.invokevirtual 22, 3) := by decide +kernel
theorem dX4_become_22 : decode cX4_become 22 = .ok (.iinc 2 1, 3) := by decide +kernel
theorem dX4_become_25 : decode cX4_become 25 = .ok (.goto (-23), 3) := by decide +kernel
theorem dX4_become_28 : decode cX4_become 28 = .ok (.aload_n 0, 1) := by decide +kernel
theorem dX4_become_29 : decode cX4_become 29 = .ok (.aload_n 1, 1) := by decide +kernel
theorem dX4_become_30 : decode cX4_become 30 = .ok (.getfield 17, 3) := by decide +kernel
theorem dX4_become_33 : decode cX4_become 33 = .ok (.putfield 17, 3) := by decide +kernel
theorem dX4_become_36 : decode cX4_become 36 = .ok (.return_, 1) := by decide +kernel
theorem dX4_room_0 : decode cX4_room 0 = .ok (.iconst 0, 1) := by decide +kernel
theorem dX4_room_1 : decode cX4_room 1 = .ok (.istore_n 1, 1) := by decide +kernel
theorem dX4_room_2 : decode cX4_room 2 = .ok (.iconst 0, 1) := by decide +kernel
theorem dX4_room_3 : decode cX4_room 3 = .ok (.istore_n 2, 1) := by decide +kernel
theorem dX4_room_4 : decode cX4_room 4 = .ok (.iload_n 2, 1) := by decide +kernel
theorem dX4_room_5 : decode cX4_room 5 = .ok (.iconst 4, 1) := by decide +kernel
theorem dX4_room_6 : decode cX4_room 6 = .ok (.if_icmp .ge 21, 3) := by decide +kernel
theorem dX4_room_9 : decode cX4_room 9 = .ok (.iload_n 1, 1) := by decide +kernel
theorem dX4_room_10 : decode cX4_room 10 = .ok (.aload_n 0, 1) := by decide +kernel
theorem dX4_room_11 : decode cX4_room 11 = .ok (.getfield 11, 3) := by decide +kernel
theorem dX4_room_14 : decode cX4_room 14 = .ok (.iload_n 2, 1) := by decide +kernel
theorem dX4_room_15 : decode cX4_room 15 = .ok (.aaload, 1) := by decide +kernel
theorem dX4_room_16 : decode cX4_room 16 = .ok (.invokevirtual 26, 3) := by decide +kernel
theorem dX4_room_19 : decode cX4_room 19 = .ok (.iadd, 1) := by decide +kernel
theorem dX4_room_20 : decode cX4_room 20 = .ok (.istore_n 1, 1) := by decide +kernel
theorem dX4_room_21 : decode cX4_room 21 = .ok (.iinc 2 1, 3) := by decide +kernel
theorem dX4_room_24 : decode cX4_room 24 = .ok (.goto (-20), 3) := by decide +kernel
theorem dX4_room_27 : decode cX4_room 27 = .ok (.iload_n 1, 1) := by decide +kernel
theorem dX4_room_28 : decode cX4_room 28 = .ok (.ireturn, 1) := by decide +kernel
theorem dX4_emptyOnes_0 : decode cX4_emptyOnes 0 = .ok (.iconst 0, 1) := by decide +kernel
theorem dX4_emptyOnes_1 : decode cX4_emptyOnes 1 = .ok (.istore_n 1, 1) := by decide +kernel
theorem dX4_emptyOnes_2 : decode cX4_emptyOnes 2 = .ok (.iconst 0, 1) := by decide +kernel
theorem dX4_emptyOnes_3 : decode cX4_emptyOnes 3 = .ok (.istore_n 2, 1) := by decide +kernel
theorem dX4_emptyOnes_4 : decode cX4_emptyOnes 4 = .ok (.iload_n 2, 1) := by decide +kernel
theorem dX4_emptyOnes_5 : decode cX4_emptyOnes 5 = .ok (.iconst 4, 1) := by decide +kernel
theorem dX4_emptyOnes_6 : decode cX4_emptyOnes 6 = .ok (.if_icmp .ge 30, 3) := by decide +kernel
theorem dX4_emptyOnes_9 : decode cX4_emptyOnes 9 = .ok (.aload_n 0, 1) := by decide +kernel
theorem dX4_emptyOnes_10 : decode cX4_emptyOnes 10 = .ok (.getfield 11, 3) := by decide +kernel
theorem dX4_emptyOnes_13 : decode cX4_emptyOnes 13 = .ok (.iload_n 2, 1) := by decide +kernel
theorem dX4_emptyOnes_14 : decode cX4_emptyOnes 14 = .ok (.aaload, 1) := by decide +kernel
theorem dX4_emptyOnes_15 : decode cX4_emptyOnes 15 = .ok (.iconst 0, 1) := by decide +kernel
theorem dX4_emptyOnes_16 : decode cX4_emptyOnes 16 = .ok (.iconst 0, 1) := by decide +kernel
theorem dX4_emptyOnes_17 : decode cX4_emptyOnes 17 = .ok (.iconst 0, 1) := by decide +kernel
theorem dX4_emptyOnes_18 : decode cX4_emptyOnes 18 = .ok (.invokevirtual 30, 3) := by decide +kernel
theorem dX4_emptyOnes_21 : decode cX4_emptyOnes 21 = .ok (.ifCond .ne 9, 3) := by decide +kernel
theorem dX4_emptyOnes_24 : decode cX4_emptyOnes 24 = .ok (.iload_n 1, 1) := by decide +kernel
theorem dX4_emptyOnes_25 : decode cX4_emptyOnes 25 = .ok (.iconst 1, 1) := by decide +kernel
theorem dX4_emptyOnes_26 : decode cX4_emptyOnes 26 = .ok (.iload_n 2, 1) := by decide +kernel
theorem dX4_emptyOnes_27 : decode cX4_emptyOnes 27 = .ok (.ishl, 1) := by decide +kernel
theorem dX4_emptyOnes_28 : decode cX4_emptyOnes 28 = .ok (.ior, 1) := by decide +kernel
theorem dX4_emptyOnes_29 : decode cX4_emptyOnes 29 = .ok (.istore_n 1, 1) := by decide +kernel
theorem dX4_emptyOnes_30 : decode cX4_emptyOnes 30 = .ok (.iinc 2 1, 3) := by decide +kernel
theorem dX4_emptyOnes_33 : decode cX4_emptyOnes 33 = .ok (.goto (-29), 3) := by decide +kernel
theorem dX4_emptyOnes_36 : decode cX4_emptyOnes 36 = .ok (.iload_n 1, 1) := by decide +kernel
theorem dX4_emptyOnes_37 : decode cX4_emptyOnes 37 = .ok (.ireturn, 1) := by decide +kernel
theorem dX5_init_0 : decode cX5_init 0 = .ok (.aload_n 0, 1) := by decide +kernel
theorem dX5_init_1 : decode cX5_init 1 = .ok (.invokespecial 3, 3) := by decide +kernel
theorem dX5_init_4 : decode cX5_init 4 = .ok (.aload_n 0, 1) := by decide +kernel
theorem dX5_init_5 : decode cX5_init 5 = .ok (.new 9, 3) := by decide +kernel
theorem dX5_init_8 : decode cX5_init 8 = .ok (.dup, 1) := by decide +kernel
theorem dX5_init_9 : decode cX5_init 9 = .ok (.invokespecial 11, 3) := by decide +kernel
theorem dX5_init_12 : decode cX5_init 12 = .ok (.putfield 12, 3) := by decide +kernel
theorem dX5_init_15 : decode cX5_init 15 = .ok (.aload_n 0, 1) := by decide +kernel
theorem dX5_init_16 : decode cX5_init 16 = .ok (.new 16, 3) := by decide +kernel
theorem dX5_init_19 : decode cX5_init 19 = .ok (.dup, 1) := by decide +kernel
theorem dX5_init_20 : decode cX5_init 20 = .ok (.invokespecial 18, 3) := by decide +kernel
theorem dX5_init_23 : decode cX5_init 23 = .ok (.putfield 19, 3) := by decide +kernel
theorem dX5_init_26 : decode cX5_init 26 = .ok (.aload_n 0, 1) := by decide +kernel
theorem dX5_init_27 : decode cX5_init 27 = .ok (.iconst 2, 1) := by decide +kernel
theorem dX5_init_28 : decode cX5_init 28 = .ok (.anewarray 23, 3) := by decide +kernel
theorem dX5_init_31 : decode cX5_init 31 = .ok (.putfield 25, 3) := by decide +kernel
theorem dX5_init_34 : decode cX5_init 34 = .ok (.aload_n 0, 1) := by decide +kernel
theorem dX5_init_35 : decode cX5_init 35 = .ok (.new 29, 3) := by decide +kernel
theorem dX5_init_38 : decode cX5_init 38 = .ok (.dup, 1) := by decide +kernel
theorem dX5_init_39 : decode cX5_init 39 = .ok (.invokespecial 31, 3) := by decide +kernel
theorem dX5_init_42 : decode cX5_init 42 = .ok (.putfield 32, 3) := by decide +kernel
theorem dX5_init_45 : decode cX5_init 45 = .ok (.aload_n 0, 1) := by decide +kernel
theorem dX5_init_46 : decode cX5_init 46 = .ok (.new 36, 3) := by decide +kernel
theorem dX5_init_49 : decode cX5_init 49 = .ok (.dup, 1) := by decide +kernel
theorem dX5_init_50 : decode cX5_init 50 = .ok (.invokespecial 38, 3) := by decide +kernel
theorem dX5_init_53 : decode cX5_init 53 = .ok (.putfield 39, 3) := by decide +kernel
theorem dX5_init_56 : decode cX5_init 56 = .ok (.aload_n 0, 1) := by decide +kernel
theorem dX5_init_57 : decode cX5_init 57 = .ok (.sipush 199, 3) := by decide +kernel
theorem dX5_init_60 : decode cX5_init 60 = .ok (.newarray .int, 2) := by decide +kernel
theorem dX5_init_62 : decode cX5_init 62 = .ok (.putfield 43, 3) := by decide +kernel
theorem dX5_init_65 : decode cX5_init 65 = .ok (.iconst 0, 1) := by decide +kernel
theorem dX5_init_66 : decode cX5_init 66 = .ok (.istore_n 1, 1) := by decide +kernel
theorem dX5_init_67 : decode cX5_init 67 = .ok (.iload_n 1, 1) := by decide +kernel
theorem dX5_init_68 : decode cX5_init 68 = .ok (.iconst 2, 1) := by decide +kernel
theorem dX5_init_69 : decode cX5_init 69 = .ok (.if_icmp .ge 22, 3) := by decide +kernel
theorem dX5_init_72 : decode cX5_init 72 = .ok (.aload_n 0, 1) := by decide +kernel
theorem dX5_init_73 : decode cX5_init 73 = .ok (.getfield 25, 3) := by decide +kernel
theorem dX5_init_76 : decode cX5_init 76 = .ok (.iload_n 1, 1) := by decide +kernel
theorem dX5_init_77 : decode cX5_init 77 = .ok (.new 23, 3) := by decide +kernel
theorem dX5_init_80 : decode cX5_init 80 = .ok (.dup, 1) := by decide +kernel
theorem dX5_init_81 : decode cX5_init 81 = .ok (.invokespecial 47, 3) := by decide +kernel
theorem dX5_init_84 : decode cX5_init 84 = .ok (.aastore, 1) := by decide +kernel
theorem dX5_init_85 : decode cX5_init 85 = .ok (.iinc 1 1, 3) := by decide +kernel
theorem dX5_init_88 : decode cX5_init 88 = .ok (.goto (-21), 3) := by decide +kernel
theorem dX5_init_91 : decode cX5_init 91 = .ok (.return_, 1) := by decide +kernel
theorem dX5_tell_0 : decode cX5_tell 0 = .ok (.iload_n 1, 1) := by decide +kernel
theorem dX5_tell_1 : decode cX5_tell 1 = .ok (.invokestatic 48, 3) := by decide +kernel
theorem dX5_tell_4 : decode cX5_tell 4 = .ok (.ifCond .ne 5, 3) := by decide +kernel
theorem dX5_tell_7 : decode cX5_tell 7 = .ok (.iconst (-1), 1) := by decide +kernel
theorem dX5_tell_8 : decode cX5_tell 8 = .ok (.ireturn, 1) := by decide +kernel
theorem dX5_tell_9 : decode cX5_tell 9 = .ok (.aload_n 0, 1) := by decide +kernel
theorem dX5_tell_10 : decode cX5_tell 10 = .ok (.getfield 32, 3) := by decide +kernel
theorem dX5_tell_13 : decode cX5_tell 13 = .ok (.invokevirtual 52, 3) := by decide +kernel
theorem dX5_tell_16 : decode cX5_tell 16 = .ok (.ifCond .ne 6, 3) := by decide +kernel
theorem dX5_tell_19 : decode cX5_tell 19 = .ok (.bipush (-3), 2) := by decide +kernel
theorem dX5_tell_21 : decode cX5_tell 21 = .ok (.ireturn, 1) := by decide +kernel
theorem dX5_tell_22 : decode cX5_tell 22 = .ok (.aload_n 0, 1) := by decide +kernel
theorem dX5_tell_23 : decode cX5_tell 23 = .ok (.invokevirtual 56, 3) := by decide +kernel
theorem dX5_tell_26 : decode cX5_tell 26 = .ok (.aload_n 0, 1) := by decide +kernel
theorem dX5_tell_27 : decode cX5_tell 27 = .ok (.getfield 12, 3) := by decide +kernel
theorem dX5_tell_30 : decode cX5_tell 30 = .ok (.getfield 59, 3) := by decide +kernel
theorem dX5_tell_33 : decode cX5_tell 33 = .ok (.iload_n 1, 1) := by decide +kernel
theorem dX5_tell_34 : decode cX5_tell 34 = .ok (.aaload, 1) := by decide +kernel
theorem dX5_tell_35 : decode cX5_tell 35 = .ok (.aload_n 0, 1) := by decide +kernel
theorem dX5_tell_36 : decode cX5_tell 36 = .ok (.getfield 32, 3) := by decide +kernel
theorem dX5_tell_39 : decode cX5_tell 39 = .ok (.getfield 63, 3) := by decide +kernel
theorem dX5_tell_42 : decode cX5_tell 42 = .ok (.invokevirtual 66, 3) := by decide +kernel
theorem dX5_tell_45 : decode cX5_tell 45 = .ok (.aload_n 0, 1) := by decide +kernel
theorem dX5_tell_46 : decode cX5_tell 46 = .ok (.getfield 32, 3) := by decide +kernel
theorem dX5_tell_49 : decode cX5_tell 49 = .ok (.iconst 0, 1) := by decide +kernel
theorem dX5_tell_50 : decode cX5_tell 50 = .ok (.putfield 70, 3) := by decide +kernel
theorem dX5_tell_53 : decode cX5_tell 53 = .ok (.aload_n 0, 1) := by decide +kernel
theorem dX5_tell_54 : decode cX5_tell 54 = .ok (.getfield 12, 3) := by decide +kernel
theorem dX5_tell_57 : decode cX5_tell 57 = .ok (.getfield 59, 3) := by decide +kernel
theorem dX5_tell_60 : decode cX5_tell 60 = .ok (.iload_n 1, 1) := by decide +kernel
theorem dX5_tell_61 : decode cX5_tell 61 = .ok (.aaload, 1) := by decide +kernel
theorem dX5_tell_62 : decode cX5_tell 62 = .ok (.invokevirtual 74, 3) := by decide +kernel
theorem dX5_tell_65 : decode cX5_tell 65 = .ok (.ireturn, 1) := by decide +kernel
theorem dX5_entry_0 : decode cX5_entry 0 = .ok (.iload_n 1, 1) := by decide +kernel
theorem dX5_entry_1 : decode cX5_entry 1 = .ok (.iload_n 2, 1) := by decide +kernel
theorem dX5_entry_2 : decode cX5_entry 2 = .ok (.iload_n 3, 1) := by decide +kernel
theorem dX5_entry_3 : decode cX5_entry 3 = .ok (.invokestatic 78, 3) := by decide +kernel
theorem dX5_entry_6 : decode cX5_entry 6 = .ok (.ifCond .ne 5, 3) := by decide +kernel
theorem dX5_entry_9 : decode cX5_entry 9 = .ok (.iconst (-1), 1) := by decide +kernel
theorem dX5_entry_10 : decode cX5_entry 10 = .ok (.ireturn, 1) := by decide +kernel
theorem dX5_entry_11 : decode cX5_entry 11 = .ok (.iload 4, 2) := by decide +kernel
theorem dX5_entry_13 : decode cX5_entry 13 = .ok (.ldc 82, 2) := by decide +kernel
theorem dX5_entry_15 : decode cX5_entry 15 = .ok (.invokestatic 83, 3) := by decide +kernel
theorem dX5_entry_18 : decode cX5_entry 18 = .ok (.ifCond .ne 6, 3) := by decide +kernel
theorem dX5_entry_21 : decode cX5_entry 21 = .ok (.bipush (-2), 2) := by decide +kernel
theorem dX5_entry_23 : decode cX5_entry 23 = .ok (.ireturn, 1) := by decide +kernel
theorem dX5_entry_24 : decode cX5_entry 24 = .ok (.aload_n 0, 1) := by decide +kernel
theorem dX5_entry_25 : decode cX5_entry 25 = .ok (.getfield 12, 3) := by decide +kernel
theorem dX5_entry_28 : decode cX5_entry 28 = .ok (.getfield 59, 3) := by decide +kernel
theorem dX5_entry_31 : decode cX5_entry 31 = .ok (.iload_n 1, 1) := by decide +kernel
theorem dX5_entry_32 : decode cX5_entry 32 = .ok (.aaload, 1) := by decide +kernel
theorem dX5_entry_33 : decode cX5_entry 33 = .ok (.iload_n 2, 1) := by decide +kernel
theorem dX5_entry_34 : decode cX5_entry 34 = .ok (.iload_n 3, 1) := by decide +kernel
theorem dX5_entry_35 : decode cX5_entry 35 = .ok (.invokevirtual 87, 3) := by decide +kernel
theorem dX5_entry_38 : decode cX5_entry 38 = .ok (.istore 5, 2) := by decide +kernel
theorem dX5_entry_40 : decode cX5_entry 40 = .ok (.aload_n 0, 1) := by decide +kernel
theorem dX5_entry_41 : decode cX5_entry 41 = .ok (.invokevirtual 56, 3) := by decide +kernel
theorem dX5_entry_44 : decode cX5_entry 44 = .ok (.aload_n 0, 1) := by decide +kernel
theorem dX5_entry_45 : decode cX5_entry 45 = .ok (.getfield 12, 3) := by decide +kernel
theorem dX5_entry_48 : decode cX5_entry 48 = .ok (.getfield 59, 3) := by decide +kernel
theorem dX5_entry_51 : decode cX5_entry 51 = .ok (.iload_n 1, 1) := by decide +kernel
theorem dX5_entry_52 : decode cX5_entry 52 = .ok (.aaload, 1) := by decide +kernel
theorem dX5_entry_53 : decode cX5_entry 53 = .ok (.iload_n 2, 1) := by decide +kernel
theorem dX5_entry_54 : decode cX5_entry 54 = .ok (.iload_n 3, 1) := by decide +kernel
theorem dX5_entry_55 : decode cX5_entry 55 = .ok (.iload 4, 2) := by decide +kernel
theorem dX5_entry_57 : decode cX5_entry 57 = .ok (.invokevirtual 91, 3) := by decide +kernel
theorem dX5_entry_60 : decode cX5_entry 60 = .ok (.iload 5, 2) := by decide +kernel
theorem dX5_entry_62 : decode cX5_entry 62 = .ok (.ldc 82, 2) := by decide +kernel
theorem dX5_entry_64 : decode cX5_entry 64 = .ok (.iadd, 1) := by decide +kernel
theorem dX5_entry_65 : decode cX5_entry 65 = .ok (.ireturn, 1) := by decide +kernel
theorem dX5_shrink_0 : decode cX5_shrink 0 = .ok (.iload_n 1, 1) := by decide +kernel
theorem dX5_shrink_1 : decode cX5_shrink 1 = .ok (.invokestatic 48, 3) := by decide +kernel
theorem dX5_shrink_4 : decode cX5_shrink 4 = .ok (.ifCond .ne 5, 3) := by decide +kernel
theorem dX5_shrink_7 : decode cX5_shrink 7 = .ok (.iconst (-1), 1) := by decide +kernel
theorem dX5_shrink_8 : decode cX5_shrink 8 = .ok (.ireturn, 1) := by decide +kernel
theorem dX5_shrink_9 : decode cX5_shrink 9 = .ok (.aload_n 0, 1) := by decide +kernel
theorem dX5_shrink_10 : decode cX5_shrink 10 = .ok (.invokevirtual 56, 3) := by decide +kernel
theorem dX5_shrink_13 : decode cX5_shrink 13 = .ok (.aload_n 0, 1) := by decide +kernel
theorem dX5_shrink_14 : decode cX5_shrink 14 = .ok (.getfield 12, 3) := by decide +kernel
theorem dX5_shrink_17 : decode cX5_shrink 17 = .ok (.getfield 59, 3) := by decide +kernel
theorem dX5_shrink_20 : decode cX5_shrink 20 = .ok (.iload_n 1, 1) := by decide +kernel
theorem dX5_shrink_21 : decode cX5_shrink 21 = .ok (.aaload, 1) := by decide +kernel
theorem dX5_shrink_22 : decode cX5_shrink 22 = .ok (.invokevirtual 74, 3) := by decide +kernel
theorem dX5_shrink_25 : decode cX5_shrink 25 = .ok (.istore_n 2, 1) := by decide +kernel
theorem dX5_shrink_26 : decode cX5_shrink 26 = .ok (.iload_n 2, 1) := by decide +kernel
theorem dX5_shrink_27 : decode cX5_shrink 27 = .ok (.aload_n 0, 1) := by decide +kernel
theorem dX5_shrink_28 : decode cX5_shrink 28 = .ok (.getfield 12, 3) := by decide +kernel
theorem dX5_shrink_31 : decode cX5_shrink 31 = .ok (.getfield 59, 3) := by decide +kernel
theorem dX5_shrink_34 : decode cX5_shrink 34 = .ok (.iload_n 1, 1) := by decide +kernel
theorem dX5_shrink_35 : decode cX5_shrink 35 = .ok (.aaload, 1) := by decide +kernel
theorem dX5_shrink_36 : decode cX5_shrink 36 = .ok (.invokevirtual 95, 3) := by decide +kernel
theorem dX5_shrink_39 : decode cX5_shrink 39 = .ok (.isub, 1) := by decide +kernel
theorem dX5_shrink_40 : decode cX5_shrink 40 = .ok (.ireturn, 1) := by decide +kernel
theorem dX5_add_0 : decode cX5_add 0 = .ok (.iload_n 1, 1) := by decide +kernel
theorem dX5_add_1 : decode cX5_add 1 = .ok (.invokestatic 48, 3) := by decide +kernel
theorem dX5_add_4 : decode cX5_add 4 = .ok (.ifCond .eq 10, 3) := by decide +kernel
theorem dX5_add_7 : decode cX5_add 7 = .ok (.iload_n 2, 1) := by decide +kernel
theorem dX5_add_8 : decode cX5_add 8 = .ok (.invokestatic 48, 3) := by decide +kernel
theorem dX5_add_11 : decode cX5_add 11 = .ok (.ifCond .ne 5, 3) := by decide +kernel
theorem dX5_add_14 : decode cX5_add 14 = .ok (.iconst (-1), 1) := by decide +kernel
theorem dX5_add_15 : decode cX5_add 15 = .ok (.ireturn, 1) := by decide +kernel
theorem dX5_add_16 : decode cX5_add 16 = .ok (.iload_n 3, 1) := by decide +kernel
theorem dX5_add_17 : decode cX5_add 17 = .ok (.ifCond .eq 17, 3) := by decide +kernel
theorem dX5_add_20 : decode cX5_add 20 = .ok (.iload_n 3, 1) := by decide +kernel
theorem dX5_add_21 : decode cX5_add 21 = .ok (.bipush 99, 2) := by decide +kernel
theorem dX5_add_23 : decode cX5_add 23 = .ok (.invokestatic 83, 3) := by decide +kernel
theorem dX5_add_26 : decode cX5_add 26 = .ok (.ifCond .eq 8, 3) := by decide +kernel
theorem dX5_add_29 : decode cX5_add 29 = .ok (.iload_n 1, 1) := by decide +kernel
theorem dX5_add_30 : decode cX5_add 30 = .ok (.iload_n 2, 1) := by decide +kernel
theorem dX5_add_31 : decode cX5_add 31 = .ok (.if_icmp .ne 6, 3) := by decide +kernel
theorem dX5_add_34 : decode cX5_add 34 = .ok (.bipush (-2), 2) := by decide +kernel
theorem dX5_add_36 : decode cX5_add 36 = .ok (.ireturn, 1) := by decide +kernel
theorem dX5_add_37 : decode cX5_add 37 = .ok (.aload_n 0, 1) := by decide +kernel
theorem dX5_add_38 : decode cX5_add 38 = .ok (.invokevirtual 56, 3) := by decide +kernel
theorem dX5_add_41 : decode cX5_add 41 = .ok (.aload_n 0, 1) := by decide +kernel
theorem dX5_add_42 : decode cX5_add 42 = .ok (.getfield 12, 3) := by decide +kernel
theorem dX5_add_45 : decode cX5_add 45 = .ok (.getfield 59, 3) := by decide +kernel
theorem dX5_add_48 : decode cX5_add 48 = .ok (.iload_n 1, 1) := by decide +kernel
theorem dX5_add_49 : decode cX5_add 49 = .ok (.aaload, 1) := by decide +kernel
theorem dX5_add_50 : decode cX5_add 50 = .ok (.aload_n 0, 1) := by decide +kernel
theorem dX5_add_51 : decode cX5_add 51 = .ok (.getfield 12, 3) := by decide +kernel
theorem dX5_add_54 : decode cX5_add 54 = .ok (.getfield 59, 3) := by decide +kernel
theorem dX5_add_57 : decode cX5_add 57 = .ok (.iload_n 2, 1) := by decide +kernel
theorem dX5_add_58 : decode cX5_add 58 = .ok (.aaload, 1) := by decide +kernel
theorem dX5_add_59 : decode cX5_add 59 = .ok (.iload_n 3, 1) := by decide +kernel
theorem dX5_add_60 : decode cX5_add 60 = .ok (.invokevirtual 98, 3) := by decide +kernel
theorem dX5_add_63 : decode cX5_add 63 = .ok (.aload_n 0, 1) := by decide +kernel
theorem dX5_add_64 : decode cX5_add 64 = .ok (.getfield 12, 3) := by decide +kernel
theorem dX5_add_67 : decode cX5_add 67 = .ok (.getfield 59, 3) := by decide +kernel
theorem dX5_add_70 : decode cX5_add 70 = .ok (.iload_n 1, 1) := by decide +kernel
theorem dX5_add_71 : decode cX5_add 71 = .ok (.aaload, 1) := by decide +kernel
theorem dX5_add_72 : decode cX5_add 72 = .ok (.invokevirtual 74, 3) := by decide +kernel
theorem dX5_add_75 : decode cX5_add 75 = .ok (.ireturn, 1) := by decide +kernel
theorem dX5_turn_0 : decode cX5_turn 0 = .ok (.iload_n 1, 1) := by decide +kernel
theorem dX5_turn_1 : decode cX5_turn 1 = .ok (.invokestatic 48, 3) := by decide +kernel
theorem dX5_turn_4 : decode cX5_turn 4 = .ok (.ifCond .ne 5, 3) := by decide +kernel
theorem dX5_turn_7 : decode cX5_turn 7 = .ok (.iconst (-1), 1) := by decide +kernel
theorem dX5_turn_8 : decode cX5_turn 8 = .ok (.ireturn, 1) := by decide +kernel
theorem dX5_turn_9 : decode cX5_turn 9 = .ok (.aload_n 0, 1) := by decide +kernel
theorem dX5_turn_10 : decode cX5_turn 10 = .ok (.invokevirtual 56, 3) := by decide +kernel
theorem dX5_turn_13 : decode cX5_turn 13 = .ok (.aload_n 0, 1) := by decide +kernel
theorem dX5_turn_14 : decode cX5_turn 14 = .ok (.getfield 12, 3) := by decide +kernel
theorem dX5_turn_17 : decode cX5_turn 17 = .ok (.getfield 59, 3) := by decide +kernel
theorem dX5_turn_20 : decode cX5_turn 20 = .ok (.iload_n 1, 1) := by decide +kernel
theorem dX5_turn_21 : decode cX5_turn 21 = .ok (.aaload, 1) := by decide +kernel
theorem dX5_turn_22 : decode cX5_turn 22 = .ok (.invokevirtual 102, 3) := by decide +kernel
theorem dX5_turn_25 : decode cX5_turn 25 = .ok (.aload_n 0, 1) := by decide +kernel
theorem dX5_turn_26 : decode cX5_turn 26 = .ok (.getfield 12, 3) := by decide +kernel
theorem dX5_turn_29 : decode cX5_turn 29 = .ok (.getfield 59, 3) := by decide +kernel
theorem dX5_turn_32 : decode cX5_turn 32 = .ok (.iload_n 1, 1) := by decide +kernel
theorem dX5_turn_33 : decode cX5_turn 33 = .ok (.aaload, 1) := by decide +kernel
theorem dX5_turn_34 : decode cX5_turn 34 = .ok (.invokevirtual 105, 3) := by decide +kernel
theorem dX5_turn_37 : decode cX5_turn 37 = .ok (.ldc 108, 2) := by decide +kernel
theorem dX5_turn_39 : decode cX5_turn 39 = .ok (.iadd, 1) := by decide +kernel
theorem dX5_turn_40 : decode cX5_turn 40 = .ok (.ireturn, 1) := by decide +kernel
theorem dX5_copy_0 : decode cX5_copy 0 = .ok (.iload_n 1, 1) := by decide +kernel
theorem dX5_copy_1 : decode cX5_copy 1 = .ok (.invokestatic 48, 3) := by decide +kernel
theorem dX5_copy_4 : decode cX5_copy 4 = .ok (.ifCond .eq 10, 3) := by decide +kernel
theorem dX5_copy_7 : decode cX5_copy 7 = .ok (.iload_n 2, 1) := by decide +kernel
theorem dX5_copy_8 : decode cX5_copy 8 = .ok (.invokestatic 48, 3) := by decide +kernel
theorem dX5_copy_11 : decode cX5_copy 11 = .ok (.ifCond .ne 5, 3) := by decide +kernel
theorem dX5_copy_14 : decode cX5_copy 14 = .ok (.iconst (-1), 1) := by decide +kernel
theorem dX5_copy_15 : decode cX5_copy 15 = .ok (.ireturn, 1) := by decide +kernel
theorem dX5_copy_16 : decode cX5_copy 16 = .ok (.iload_n 1, 1) := by decide +kernel
theorem dX5_copy_17 : decode cX5_copy 17 = .ok (.iload_n 2, 1) := by decide +kernel
theorem dX5_copy_18 : decode cX5_copy 18 = .ok (.if_icmp .ne 6, 3) := by decide +kernel
theorem dX5_copy_21 : decode cX5_copy 21 = .ok (.bipush (-2), 2) := by decide +kernel
theorem dX5_copy_23 : decode cX5_copy 23 = .ok (.ireturn, 1) := by decide +kernel
theorem dX5_copy_24 : decode cX5_copy 24 = .ok (.aload_n 0, 1) := by decide +kernel
theorem dX5_copy_25 : decode cX5_copy 25 = .ok (.invokevirtual 56, 3) := by decide +kernel
theorem dX5_copy_28 : decode cX5_copy 28 = .ok (.aload_n 0, 1) := by decide +kernel
theorem dX5_copy_29 : decode cX5_copy 29 = .ok (.getfield 12, 3) := by decide +kernel
theorem dX5_copy_32 : decode cX5_copy 32 = .ok (.getfield 59, 3) := by decide +kernel
theorem dX5_copy_35 : decode cX5_copy 35 = .ok (.iload_n 1, 1) := by decide +kernel
theorem dX5_copy_36 : decode cX5_copy 36 = .ok (.aaload, 1) := by decide +kernel
theorem dX5_copy_37 : decode cX5_copy 37 = .ok (.aload_n 0, 1) := by decide +kernel
theorem dX5_copy_38 : decode cX5_copy 38 = .ok (.getfield 12, 3) := by decide +kernel
theorem dX5_copy_41 : decode cX5_copy 41 = .ok (.getfield 59, 3) := by decide +kernel
theorem dX5_copy_44 : decode cX5_copy 44 = .ok (.iload_n 2, 1) := by decide +kernel
theorem dX5_copy_45 : decode cX5_copy 45 = .ok (.aaload, 1) := by decide +kernel
theorem dX5_copy_46 : decode cX5_copy 46 = .ok (.invokevirtual 66, 3) := by decide +kernel
theorem dX5_copy_49 : decode cX5_copy 49 = .ok (.aload_n 0, 1) := by decide +kernel
theorem dX5_copy_50 : decode cX5_copy 50 = .ok (.getfield 12, 3) := by decide +kernel
theorem dX5_copy_53 : decode cX5_copy 53 = .ok (.getfield 59, 3) := by decide +kernel
theorem dX5_copy_56 : decode cX5_copy 56 = .ok (.iload_n 1, 1) := by decide +kernel
theorem dX5_copy_57 : decode cX5_copy 57 = .ok (.aaload, 1) := by decide +kernel
theorem dX5_copy_58 : decode cX5_copy 58 = .ok (.invokevirtual 74, 3) := by decide +kernel
theorem dX5_copy_61 : decode cX5_copy 61 = .ok (.ireturn, 1) := by decide +kernel
theorem dX5_clear_0 : decode cX5_clear 0 = .ok (.iload_n 1, 1) := by decide +kernel
theorem dX5_clear_1 : decode cX5_clear 1 = .ok (.iload_n 2, 1) := by decide +kernel
theorem dX5_clear_2 : decode cX5_clear 2 = .ok (.iload_n 3, 1) := by decide +kernel
theorem dX5_clear_3 : decode cX5_clear 3 = .ok (.invokestatic 78, 3) := by decide +kernel
theorem dX5_clear_6 : decode cX5_clear 6 = .ok (.ifCond .ne 5, 3) := by decide +kernel
theorem dX5_clear_9 : decode cX5_clear 9 = .ok (.iconst (-1), 1) := by decide +kernel
theorem dX5_clear_10 : decode cX5_clear 10 = .ok (.ireturn, 1) := by decide +kernel
theorem dX5_clear_11 : decode cX5_clear 11 = .ok (.aload_n 0, 1) := by decide +kernel
theorem dX5_clear_12 : decode cX5_clear 12 = .ok (.invokevirtual 56, 3) := by decide +kernel
theorem dX5_clear_15 : decode cX5_clear 15 = .ok (.aload_n 0, 1) := by decide +kernel
theorem dX5_clear_16 : decode cX5_clear 16 = .ok (.getfield 12, 3) := by decide +kernel
theorem dX5_clear_19 : decode cX5_clear 19 = .ok (.getfield 59, 3) := by decide +kernel
theorem dX5_clear_22 : decode cX5_clear 22 = .ok (.iload_n 1, 1) := by decide +kernel
theorem dX5_clear_23 : decode cX5_clear 23 = .ok (.aaload, 1) := by decide +kernel
theorem dX5_clear_24 : decode cX5_clear 24 = .ok (.iload_n 2, 1) := by decide +kernel
theorem dX5_clear_25 : decode cX5_clear 25 = .ok (.iload_n 3, 1) := by decide +kernel
theorem dX5_clear_26 : decode cX5_clear 26 = .ok (.invokevirtual 109, 3) := by decide +kernel
theorem dX5_clear_29 : decode cX5_clear 29 = .ok (.ireturn, 1) := by decide +kernel
theorem dX5_at_0 : decode cX5_at 0 = .ok (.iload_n 1, 1) := by decide +kernel
theorem dX5_at_1 : decode cX5_at 1 = .ok (.iload_n 2, 1) := by decide +kernel
theorem dX5_at_2 : decode cX5_at 2 = .ok (.iload_n 3, 1) := by decide +kernel
theorem dX5_at_3 : decode cX5_at 3 = .ok (.invokestatic 78, 3) := by decide +kernel
theorem dX5_at_6 : decode cX5_at 6 = .ok (.ifCond .ne 5, 3) := by decide +kernel
theorem dX5_at_9 : decode cX5_at 9 = .ok (.iconst (-1), 1) := by decide +kernel
theorem dX5_at_10 : decode cX5_at 10 = .ok (.ireturn, 1) := by decide +kernel
theorem dX5_at_11 : decode cX5_at 11 = .ok (.aload_n 0, 1) := by decide +kernel
theorem dX5_at_12 : decode cX5_at 12 = .ok (.getfield 12, 3) := by decide +kernel
theorem dX5_at_15 : decode cX5_at 15 = .ok (.getfield 59, 3) := by decide +kernel
theorem dX5_at_18 : decode cX5_at 18 = .ok (.iload_n 1, 1) := by decide +kernel
theorem dX5_at_19 : decode cX5_at 19 = .ok (.aaload, 1) := by decide +kernel
theorem dX5_at_20 : decode cX5_at 20 = .ok (.iload_n 2, 1) := by decide +kernel
theorem dX5_at_21 : decode cX5_at 21 = .ok (.iload_n 3, 1) := by decide +kernel
theorem dX5_at_22 : decode cX5_at 22 = .ok (.invokevirtual 87, 3) := by decide +kernel
theorem dX5_at_25 : decode cX5_at 25 = .ok (.ldc 82, 2) := by decide +kernel
theorem dX5_at_27 : decode cX5_at 27 = .ok (.iadd, 1) := by decide +kernel
theorem dX5_at_28 : decode cX5_at 28 = .ok (.ireturn, 1) := by decide +kernel
theorem dX5_block_0 : decode cX5_block 0 = .ok (.iload_n 1, 1) := by decide +kernel
theorem dX5_block_1 : decode cX5_block 1 = .ok (.iload_n 2, 1) := by decide +kernel
theorem dX5_block_2 : decode cX5_block 2 = .ok (.iload_n 3, 1) := by decide +kernel
theorem dX5_block_3 : decode cX5_block 3 = .ok (.invokestatic 78, 3) := by decide +kernel
theorem dX5_block_6 : decode cX5_block 6 = .ok (.ifCond .ne 5, 3) := by decide +kernel
theorem dX5_block_9 : decode cX5_block 9 = .ok (.iconst (-1), 1) := by decide +kernel
theorem dX5_block_10 : decode cX5_block 10 = .ok (.ireturn, 1) := by decide +kernel
theorem dX5_block_11 : decode cX5_block 11 = .ok (.aload_n 0, 1) := by decide +kernel
theorem dX5_block_12 : decode cX5_block 12 = .ok (.getfield 12, 3) := by decide +kernel
theorem dX5_block_15 : decode cX5_block 15 = .ok (.getfield 59, 3) := by decide +kernel
theorem dX5_block_18 : decode cX5_block 18 = .ok (.iload_n 1, 1) := by decide +kernel
theorem dX5_block_19 : decode cX5_block 19 = .ok (.aaload, 1) := by decide +kernel
theorem dX5_block_20 : decode cX5_block 20 = .ok (.astore 5, 2) := by decide +kernel
theorem dX5_block_22 : decode cX5_block 22 = .ok (.aload 5, 2) := by decide +kernel
theorem dX5_block_24 : decode cX5_block 24 = .ok (.iload_n 2, 1) := by decide +kernel
theorem dX5_block_25 : decode cX5_block 25 = .ok (.iload_n 3, 1) := by decide +kernel
theorem dX5_block_26 : decode cX5_block 26 = .ok (.invokevirtual 112, 3) := by decide +kernel
theorem dX5_block_29 : decode cX5_block 29 = .ok (.istore 6, 2) := by decide +kernel
theorem dX5_block_31 : decode cX5_block 31 = .ok (.iload 6, 2) := by decide +kernel
theorem dX5_block_33 : decode cX5_block 33 = .ok (.invokestatic 115, 3) := by decide +kernel
theorem dX5_block_36 : decode cX5_block 36 = .ok (.istore 7, 2) := by decide +kernel
theorem dX5_block_38 : decode cX5_block 38 = .ok (.iload 4, 2) := by decide +kernel
theorem dX5_block_40 : decode cX5_block 40 = .ok (.tableswitch 85 0 5 #[40, 50, 53, 60, 67, 82], 40) := by decide +kernel
theorem dX5_block_80 : decode cX5_block 80 = .ok (.aload 5, 2) := by decide +kernel
theorem dX5_block_82 : decode cX5_block 82 = .ok (.iload 6, 2) := by decide +kernel
theorem dX5_block_84 : decode cX5_block 84 = .ok (.iload_n 2, 1) := by decide +kernel
theorem dX5_block_85 : decode cX5_block 85 = .ok (.iload_n 3, 1) := by decide +kernel
theorem dX5_block_86 : decode cX5_block 86 = .ok (.invokevirtual 119, 3) := by decide +kernel
theorem dX5_block_89 : decode cX5_block 89 = .ok (.ireturn, 1) := by decide +kernel
theorem dX5_block_90 : decode cX5_block 90 = .ok (.iload 7, 2) := by decide +kernel
theorem dX5_block_92 : decode cX5_block 92 = .ok (.ireturn, 1) := by decide +kernel
theorem dX5_block_93 : decode cX5_block 93 = .ok (.iload 6, 2) := by decide +kernel
theorem dX5_block_95 : decode cX5_block 95 = .ok (.iload_n 2, 1) := by decide +kernel
theorem dX5_block_96 : decode cX5_block 96 = .ok (.invokestatic 123, 3) := by decide +kernel
theorem dX5_block_99 : decode cX5_block 99 = .ok (.ireturn, 1) := by decide +kernel
theorem dX5_block_100 : decode cX5_block 100 = .ok (.iload 6, 2) := by decide +kernel
theorem dX5_block_102 : decode cX5_block 102 = .ok (.iload_n 3, 1) := by decide +kernel
theorem dX5_block_103 : decode cX5_block 103 = .ok (.invokestatic 123, 3) := by decide +kernel
theorem dX5_block_106 : decode cX5_block 106 = .ok (.ireturn, 1) := by decide +kernel
theorem dX5_block_107 : decode cX5_block 107 = .ok (.aload 5, 2) := by decide +kernel
theorem dX5_block_109 : decode cX5_block 109 = .ok (.iload 6, 2) := by decide +kernel
theorem dX5_block_111 : decode cX5_block 111 = .ok (.iload_n 2, 1) := by decide +kernel
theorem dX5_block_112 : decode cX5_block 112 = .ok (.iload_n 3, 1) := by decide +kernel
theorem dX5_block_113 : decode cX5_block 113 = .ok (.invokevirtual 119, 3) := by decide +kernel
theorem dX5_block_116 : decode cX5_block 116 = .ok (.iload 7, 2) := by decide +kernel
theorem dX5_block_118 : decode cX5_block 118 = .ok (.invokestatic 126, 3) := by decide +kernel
theorem dX5_block_121 : decode cX5_block 121 = .ok (.ireturn, 1) := by decide +kernel
theorem dX5_block_122 : decode cX5_block 122 = .ok (.iload 6, 2) := by decide +kernel
theorem dX5_block_124 : decode cX5_block 124 = .ok (.ireturn, 1) := by decide +kernel
theorem dX5_block_125 : decode cX5_block 125 = .ok (.bipush (-2), 2) := by decide +kernel
theorem dX5_block_127 : decode cX5_block 127 = .ok (.ireturn, 1) := by decide +kernel
theorem dX5_of_0 : decode cX5_of 0 = .ok (.iload_n 1, 1) := by decide +kernel
theorem dX5_of_1 : decode cX5_of 1 = .ok (.invokestatic 48, 3) := by decide +kernel
theorem dX5_of_4 : decode cX5_of 4 = .ok (.ifCond .ne 5, 3) := by decide +kernel
theorem dX5_of_7 : decode cX5_of 7 = .ok (.iconst (-1), 1) := by decide +kernel
theorem dX5_of_8 : decode cX5_of 8 = .ok (.ireturn, 1) := by decide +kernel
theorem dX5_of_9 : decode cX5_of 9 = .ok (.aload_n 0, 1) := by decide +kernel
theorem dX5_of_10 : decode cX5_of 10 = .ok (.getfield 12, 3) := by decide +kernel
theorem dX5_of_13 : decode cX5_of 13 = .ok (.getfield 59, 3) := by decide +kernel
theorem dX5_of_16 : decode cX5_of 16 = .ok (.iload_n 1, 1) := by decide +kernel
theorem dX5_of_17 : decode cX5_of 17 = .ok (.aaload, 1) := by decide +kernel
theorem dX5_of_18 : decode cX5_of 18 = .ok (.astore_n 3, 1) := by decide +kernel
theorem dX5_of_19 : decode cX5_of 19 = .ok (.iload_n 2, 1) := by decide +kernel
theorem dX5_of_20 : decode cX5_of 20 = .ok (.tableswitch 136 0 10 #[60, 65, 70, 76, 82, 88, 94, 99, 107, 115, 123], 60) := by decide +kernel
theorem dX5_of_80 : decode cX5_of 80 = .ok (.aload_n 3, 1) := by decide +kernel
theorem dX5_of_81 : decode cX5_of 81 = .ok (.invokevirtual 74, 3) := by decide +kernel
theorem dX5_of_84 : decode cX5_of 84 = .ok (.ireturn, 1) := by decide +kernel
theorem dX5_of_85 : decode cX5_of 85 = .ok (.aload_n 3, 1) := by decide +kernel
theorem dX5_of_86 : decode cX5_of 86 = .ok (.invokevirtual 129, 3) := by decide +kernel
theorem dX5_of_89 : decode cX5_of 89 = .ok (.ireturn, 1) := by decide +kernel
theorem dX5_of_90 : decode cX5_of 90 = .ok (.aload_n 3, 1) := by decide +kernel
theorem dX5_of_91 : decode cX5_of 91 = .ok (.iconst 0, 1) := by decide +kernel
theorem dX5_of_92 : decode cX5_of 92 = .ok (.invokevirtual 132, 3) := by decide +kernel
theorem dX5_of_95 : decode cX5_of 95 = .ok (.ireturn, 1) := by decide +kernel
theorem dX5_of_96 : decode cX5_of 96 = .ok (.aload_n 3, 1) := by decide +kernel
theorem dX5_of_97 : decode cX5_of 97 = .ok (.iconst 1, 1) := by decide +kernel
theorem dX5_of_98 : decode cX5_of 98 = .ok (.invokevirtual 132, 3) := by decide +kernel
theorem dX5_of_101 : decode cX5_of 101 = .ok (.ireturn, 1) := by decide +kernel
theorem dX5_of_102 : decode cX5_of 102 = .ok (.aload_n 3, 1) := by decide +kernel
theorem dX5_of_103 : decode cX5_of 103 = .ok (.iconst 2, 1) := by decide +kernel
theorem dX5_of_104 : decode cX5_of 104 = .ok (.invokevirtual 132, 3) := by decide +kernel
theorem dX5_of_107 : decode cX5_of 107 = .ok (.ireturn, 1) := by decide +kernel
theorem dX5_of_108 : decode cX5_of 108 = .ok (.aload_n 3, 1) := by decide +kernel
theorem dX5_of_109 : decode cX5_of 109 = .ok (.iconst 3, 1) := by decide +kernel
theorem dX5_of_110 : decode cX5_of 110 = .ok (.invokevirtual 132, 3) := by decide +kernel
theorem dX5_of_113 : decode cX5_of 113 = .ok (.ireturn, 1) := by decide +kernel
theorem dX5_of_114 : decode cX5_of 114 = .ok (.aload_n 3, 1) := by decide +kernel
theorem dX5_of_115 : decode cX5_of 115 = .ok (.invokevirtual 135, 3) := by decide +kernel
theorem dX5_of_118 : decode cX5_of 118 = .ok (.ireturn, 1) := by decide +kernel
theorem dX5_of_119 : decode cX5_of 119 = .ok (.aload_n 3, 1) := by decide +kernel
theorem dX5_of_120 : decode cX5_of 120 = .ok (.invokevirtual 105, 3) := by decide +kernel
theorem dX5_of_123 : decode cX5_of 123 = .ok (.ldc 108, 2) := by decide +kernel
theorem dX5_of_125 : decode cX5_of 125 = .ok (.iadd, 1) := by decide +kernel
theorem dX5_of_126 : decode cX5_of 126 = .ok (.ireturn, 1) := by decide +kernel
theorem dX5_of_127 : decode cX5_of 127 = .ok (.aload_n 3, 1) := by decide +kernel
theorem dX5_of_128 : decode cX5_of 128 = .ok (.invokevirtual 138, 3) := by decide +kernel
theorem dX5_of_131 : decode cX5_of 131 = .ok (.ldc 82, 2) := by decide +kernel
theorem dX5_of_133 : decode cX5_of 133 = .ok (.iadd, 1) := by decide +kernel
theorem dX5_of_134 : decode cX5_of 134 = .ok (.ireturn, 1) := by decide +kernel
theorem dX5_of_135 : decode cX5_of 135 = .ok (.aload_n 3, 1) := by decide +kernel
theorem dX5_of_136 : decode cX5_of 136 = .ok (.invokevirtual 141, 3) := by decide +kernel
theorem dX5_of_139 : decode cX5_of 139 = .ok (.ldc 82, 2) := by decide +kernel
theorem dX5_of_141 : decode cX5_of 141 = .ok (.iadd, 1) := by decide +kernel
theorem dX5_of_142 : decode cX5_of 142 = .ok (.ireturn, 1) := by decide +kernel
theorem dX5_of_143 : decode cX5_of 143 = .ok (.aload_n 3, 1) := by decide +kernel
theorem dX5_of_144 : decode cX5_of 144 = .ok (.invokevirtual 144, 3) := by decide +kernel
theorem dX5_of_147 : decode cX5_of 147 = .ok (.ifCond .eq 7, 3) := by decide +kernel
theorem dX5_of_150 : decode cX5_of 150 = .ok (.iconst 1, 1) := by decide +kernel
theorem dX5_of_151 : decode cX5_of 151 = .ok (.goto 4, 3) := by decide +kernel
theorem dX5_of_154 : decode cX5_of 154 = .ok (.iconst 0, 1) := by decide +kernel
theorem dX5_of_155 : decode cX5_of 155 = .ok (.ireturn, 1) := by decide +kernel
theorem dX5_of_156 : decode cX5_of 156 = .ok (.bipush (-2), 2) := by decide +kernel
theorem dX5_of_158 : decode cX5_of 158 = .ok (.ireturn, 1) := by decide +kernel
theorem dX5_count_0 : decode cX5_count 0 = .ok (.iload_n 1, 1) := by decide +kernel
theorem dX5_count_1 : decode cX5_count 1 = .ok (.tableswitch 75 0 4 #[35, 43, 51, 59, 67], 35) := by decide +kernel
theorem dX5_count_36 : decode cX5_count 36 = .ok (.aload_n 0, 1) := by decide +kernel
theorem dX5_count_37 : decode cX5_count 37 = .ok (.getfield 12, 3) := by decide +kernel
theorem dX5_count_40 : decode cX5_count 40 = .ok (.invokevirtual 156, 3) := by decide +kernel
theorem dX5_count_43 : decode cX5_count 43 = .ok (.ireturn, 1) := by decide +kernel
theorem dX5_count_44 : decode cX5_count 44 = .ok (.aload_n 0, 1) := by decide +kernel
theorem dX5_count_45 : decode cX5_count 45 = .ok (.getfield 12, 3) := by decide +kernel
theorem dX5_count_48 : decode cX5_count 48 = .ok (.invokevirtual 157, 3) := by decide +kernel
theorem dX5_count_51 : decode cX5_count 51 = .ok (.ireturn, 1) := by decide +kernel
theorem dX5_count_52 : decode cX5_count 52 = .ok (.aload_n 0, 1) := by decide +kernel
theorem dX5_count_53 : decode cX5_count 53 = .ok (.getfield 12, 3) := by decide +kernel
theorem dX5_count_56 : decode cX5_count 56 = .ok (.getfield 160, 3) := by decide +kernel
theorem dX5_count_59 : decode cX5_count 59 = .ok (.ireturn, 1) := by decide +kernel
theorem dX5_count_60 : decode cX5_count 60 = .ok (.aload_n 0, 1) := by decide +kernel
theorem dX5_count_61 : decode cX5_count 61 = .ok (.getfield 32, 3) := by decide +kernel
theorem dX5_count_64 : decode cX5_count 64 = .ok (.getfield 70, 3) := by decide +kernel
theorem dX5_count_67 : decode cX5_count 67 = .ok (.ireturn, 1) := by decide +kernel
theorem dX5_count_68 : decode cX5_count 68 = .ok (.aload_n 0, 1) := by decide +kernel
theorem dX5_count_69 : decode cX5_count 69 = .ok (.getfield 19, 3) := by decide +kernel
theorem dX5_count_72 : decode cX5_count 72 = .ok (.getfield 163, 3) := by decide +kernel
theorem dX5_count_75 : decode cX5_count 75 = .ok (.ireturn, 1) := by decide +kernel
theorem dX5_count_76 : decode cX5_count 76 = .ok (.bipush (-2), 2) := by decide +kernel
theorem dX5_count_78 : decode cX5_count 78 = .ok (.ireturn, 1) := by decide +kernel
theorem dX5_wouldTake_0 : decode cX5_wouldTake 0 = .ok (.iload_n 1, 1) := by decide +kernel
theorem dX5_wouldTake_1 : decode cX5_wouldTake 1 = .ok (.invokestatic 48, 3) := by decide +kernel
theorem dX5_wouldTake_4 : decode cX5_wouldTake 4 = .ok (.ifCond .ne 5, 3) := by decide +kernel
theorem dX5_wouldTake_7 : decode cX5_wouldTake 7 = .ok (.iconst (-1), 1) := by decide +kernel
theorem dX5_wouldTake_8 : decode cX5_wouldTake 8 = .ok (.ireturn, 1) := by decide +kernel
theorem dX5_wouldTake_9 : decode cX5_wouldTake 9 = .ok (.aload_n 0, 1) := by decide +kernel
theorem dX5_wouldTake_10 : decode cX5_wouldTake 10 = .ok (.getfield 39, 3) := by decide +kernel
theorem dX5_wouldTake_13 : decode cX5_wouldTake 13 = .ok (.aload_n 0, 1) := by decide +kernel
theorem dX5_wouldTake_14 : decode cX5_wouldTake 14 = .ok (.getfield 12, 3) := by decide +kernel
theorem dX5_wouldTake_17 : decode cX5_wouldTake 17 = .ok (.getfield 59, 3) := by decide +kernel
theorem dX5_wouldTake_20 : decode cX5_wouldTake 20 = .ok (.iload_n 1, 1) := by decide +kernel
theorem dX5_wouldTake_21 : decode cX5_wouldTake 21 = .ok (.aaload, 1) := by decide +kernel
theorem dX5_wouldTake_22 : decode cX5_wouldTake 22 = .ok (.invokevirtual 66, 3) := by decide +kernel
theorem dX5_wouldTake_25 : decode cX5_wouldTake 25 = .ok (.aload_n 0, 1) := by decide +kernel
theorem dX5_wouldTake_26 : decode cX5_wouldTake 26 = .ok (.getfield 39, 3) := by decide +kernel
theorem dX5_wouldTake_29 : decode cX5_wouldTake 29 = .ok (.invokevirtual 95, 3) := by decide +kernel
theorem dX5_wouldTake_32 : decode cX5_wouldTake 32 = .ok (.ireturn, 1) := by decide +kernel
theorem dX5_put_0 : decode cX5_put 0 = .ok (.lload_n 1, 1) := by decide +kernel
theorem dX5_put_1 : decode cX5_put 1 = .ok (.invokestatic 178, 3) := by decide +kernel
theorem dX5_put_4 : decode cX5_put 4 = .ok (.istore_n 3, 1) := by decide +kernel
theorem dX5_put_5 : decode cX5_put 5 = .ok (.iload_n 3, 1) := by decide +kernel
theorem dX5_put_6 : decode cX5_put 6 = .ok (.ifCond .ne 6, 3) := by decide +kernel
theorem dX5_put_9 : decode cX5_put 9 = .ok (.bipush (-2), 2) := by decide +kernel
theorem dX5_put_11 : decode cX5_put 11 = .ok (.ireturn, 1) := by decide +kernel
theorem dX5_put_12 : decode cX5_put 12 = .ok (.iload_n 3, 1) := by decide +kernel
theorem dX5_put_13 : decode cX5_put 13 = .ok (.bipush 80, 2) := by decide +kernel
theorem dX5_put_15 : decode cX5_put 15 = .ok (.aload_n 0, 1) := by decide +kernel
theorem dX5_put_16 : decode cX5_put 16 = .ok (.getfield 32, 3) := by decide +kernel
theorem dX5_put_19 : decode cX5_put 19 = .ok (.getfield 70, 3) := by decide +kernel
theorem dX5_put_22 : decode cX5_put 22 = .ok (.isub, 1) := by decide +kernel
theorem dX5_put_23 : decode cX5_put 23 = .ok (.if_icmp .le 6, 3) := by decide +kernel
theorem dX5_put_26 : decode cX5_put 26 = .ok (.bipush (-4), 2) := by decide +kernel
theorem dX5_put_28 : decode cX5_put 28 = .ok (.ireturn, 1) := by decide +kernel
theorem dX5_put_29 : decode cX5_put 29 = .ok (.iload_n 3, 1) := by decide +kernel
theorem dX5_put_30 : decode cX5_put 30 = .ok (.iconst 1, 1) := by decide +kernel
theorem dX5_put_31 : decode cX5_put 31 = .ok (.isub, 1) := by decide +kernel
theorem dX5_put_32 : decode cX5_put 32 = .ok (.istore 4, 2) := by decide +kernel
theorem dX5_put_34 : decode cX5_put 34 = .ok (.iload 4, 2) := by decide +kernel
theorem dX5_put_36 : decode cX5_put 36 = .ok (.ifCond .lt 29, 3) := by decide +kernel
theorem dX5_put_39 : decode cX5_put 39 = .ok (.aload_n 0, 1) := by decide +kernel
theorem dX5_put_40 : decode cX5_put 40 = .ok (.getfield 32, 3) := by decide +kernel
theorem dX5_put_43 : decode cX5_put 43 = .ok (.lload_n 1, 1) := by decide +kernel
theorem dX5_put_44 : decode cX5_put 44 = .ok (.iload 4, 2) := by decide +kernel
theorem dX5_put_46 : decode cX5_put 46 = .ok (.bipush 8, 2) := by decide +kernel
theorem dX5_put_48 : decode cX5_put 48 = .ok (.imul, 1) := by decide +kernel
theorem dX5_put_49 : decode cX5_put 49 = .ok (.lushr, 1) := by decide +kernel
theorem dX5_put_50 : decode cX5_put 50 = .ok (.ldc2_w 182, 3) := by decide +kernel
theorem dX5_put_53 : decode cX5_put 53 = .ok (.land, 1) := by decide +kernel
theorem dX5_put_54 : decode cX5_put 54 = .ok (.l2i, 1) := by decide +kernel
theorem dX5_put_55 : decode cX5_put 55 = .ok (.i2c, 1) := by decide +kernel
theorem dX5_put_56 : decode cX5_put 56 = .ok (.invokevirtual 184, 3) := by decide +kernel
theorem dX5_put_59 : decode cX5_put 59 = .ok (.iinc 4 (-1), 3) := by decide +kernel
theorem dX5_put_62 : decode cX5_put 62 = .ok (.goto (-28), 3) := by decide +kernel
theorem dX5_put_65 : decode cX5_put 65 = .ok (.aload_n 0, 1) := by decide +kernel
theorem dX5_put_66 : decode cX5_put 66 = .ok (.getfield 32, 3) := by decide +kernel
theorem dX5_put_69 : decode cX5_put 69 = .ok (.getfield 70, 3) := by decide +kernel
theorem dX5_put_72 : decode cX5_put 72 = .ok (.ireturn, 1) := by decide +kernel
theorem dX5_wipe_0 : decode cX5_wipe 0 = .ok (.aload_n 0, 1) := by decide +kernel
theorem dX5_wipe_1 : decode cX5_wipe 1 = .ok (.getfield 32, 3) := by decide +kernel
theorem dX5_wipe_4 : decode cX5_wipe 4 = .ok (.getfield 70, 3) := by decide +kernel
theorem dX5_wipe_7 : decode cX5_wipe 7 = .ok (.istore_n 1, 1) := by decide +kernel
theorem dX5_wipe_8 : decode cX5_wipe 8 = .ok (.aload_n 0, 1) := by decide +kernel
theorem dX5_wipe_9 : decode cX5_wipe 9 = .ok (.getfield 32, 3) := by decide +kernel
theorem dX5_wipe_12 : decode cX5_wipe 12 = .ok (.iconst 0, 1) := by decide +kernel
theorem dX5_wipe_13 : decode cX5_wipe 13 = .ok (.putfield 70, 3) := by decide +kernel
theorem dX5_wipe_16 : decode cX5_wipe 16 = .ok (.iload_n 1, 1) := by decide +kernel
theorem dX5_wipe_17 : decode cX5_wipe 17 = .ok (.ireturn, 1) := by decide +kernel
theorem dX5_undo_0 : decode cX5_undo 0 = .ok (.aload_n 0, 1) := by decide +kernel
theorem dX5_undo_1 : decode cX5_undo 1 = .ok (.getfield 19, 3) := by decide +kernel
theorem dX5_undo_4 : decode cX5_undo 4 = .ok (.getfield 163, 3) := by decide +kernel
theorem dX5_undo_7 : decode cX5_undo 7 = .ok (.ifCond .ne 6, 3) := by decide +kernel
theorem dX5_undo_10 : decode cX5_undo 10 = .ok (.bipush (-5), 2) := by decide +kernel
theorem dX5_undo_12 : decode cX5_undo 12 = .ok (.ireturn, 1) := by decide +kernel
theorem dX5_undo_13 : decode cX5_undo 13 = .ok (.aload_n 0, 1) := by decide +kernel
theorem dX5_undo_14 : decode cX5_undo 14 = .ok (.getfield 19, 3) := by decide +kernel
theorem dX5_undo_17 : decode cX5_undo 17 = .ok (.aload_n 0, 1) := by decide +kernel
theorem dX5_undo_18 : decode cX5_undo 18 = .ok (.getfield 12, 3) := by decide +kernel
theorem dX5_undo_21 : decode cX5_undo 21 = .ok (.invokevirtual 191, 3) := by decide +kernel
theorem dX5_undo_24 : decode cX5_undo 24 = .ok (.aload_n 0, 1) := by decide +kernel
theorem dX5_undo_25 : decode cX5_undo 25 = .ok (.getfield 19, 3) := by decide +kernel
theorem dX5_undo_28 : decode cX5_undo 28 = .ok (.getfield 163, 3) := by decide +kernel
theorem dX5_undo_31 : decode cX5_undo 31 = .ok (.ireturn, 1) := by decide +kernel
theorem dX5_save_0 : decode cX5_save 0 = .ok (.iload_n 1, 1) := by decide +kernel
theorem dX5_save_1 : decode cX5_save 1 = .ok (.invokestatic 195, 3) := by decide +kernel
theorem dX5_save_4 : decode cX5_save 4 = .ok (.ifCond .ne 6, 3) := by decide +kernel
theorem dX5_save_7 : decode cX5_save 7 = .ok (.bipush (-2), 2) := by decide +kernel
theorem dX5_save_9 : decode cX5_save 9 = .ok (.ireturn, 1) := by decide +kernel
theorem dX5_save_10 : decode cX5_save 10 = .ok (.aload_n 0, 1) := by decide +kernel
theorem dX5_save_11 : decode cX5_save 11 = .ok (.getfield 25, 3) := by decide +kernel
theorem dX5_save_14 : decode cX5_save 14 = .ok (.iload_n 1, 1) := by decide +kernel
theorem dX5_save_15 : decode cX5_save 15 = .ok (.aaload, 1) := by decide +kernel
theorem dX5_save_16 : decode cX5_save 16 = .ok (.getfield 198, 3) := by decide +kernel
theorem dX5_save_19 : decode cX5_save 19 = .ok (.aload_n 0, 1) := by decide +kernel
theorem dX5_save_20 : decode cX5_save 20 = .ok (.getfield 12, 3) := by decide +kernel
theorem dX5_save_23 : decode cX5_save 23 = .ok (.invokevirtual 201, 3) := by decide +kernel
theorem dX5_save_26 : decode cX5_save 26 = .ok (.aload_n 0, 1) := by decide +kernel
theorem dX5_save_27 : decode cX5_save 27 = .ok (.getfield 25, 3) := by decide +kernel
theorem dX5_save_30 : decode cX5_save 30 = .ok (.iload_n 1, 1) := by decide +kernel
theorem dX5_save_31 : decode cX5_save 31 = .ok (.aaload, 1) := by decide +kernel
theorem dX5_save_32 : decode cX5_save 32 = .ok (.iconst 1, 1) := by decide +kernel
theorem dX5_save_33 : decode cX5_save 33 = .ok (.putfield 203, 3) := by decide +kernel
theorem dX5_save_36 : decode cX5_save 36 = .ok (.aload_n 0, 1) := by decide +kernel
theorem dX5_save_37 : decode cX5_save 37 = .ok (.getfield 12, 3) := by decide +kernel
theorem dX5_save_40 : decode cX5_save 40 = .ok (.invokevirtual 156, 3) := by decide +kernel
theorem dX5_save_43 : decode cX5_save 43 = .ok (.ireturn, 1) := by decide +kernel
theorem dX5_restore_0 : decode cX5_restore 0 = .ok (.iload_n 1, 1) := by decide +kernel
theorem dX5_restore_1 : decode cX5_restore 1 = .ok (.invokestatic 195, 3) := by decide +kernel
theorem dX5_restore_4 : decode cX5_restore 4 = .ok (.ifCond .ne 6, 3) := by decide +kernel
theorem dX5_restore_7 : decode cX5_restore 7 = .ok (.bipush (-2), 2) := by decide +kernel
theorem dX5_restore_9 : decode cX5_restore 9 = .ok (.ireturn, 1) := by decide +kernel
theorem dX5_restore_10 : decode cX5_restore 10 = .ok (.aload_n 0, 1) := by decide +kernel
theorem dX5_restore_11 : decode cX5_restore 11 = .ok (.getfield 25, 3) := by decide +kernel
theorem dX5_restore_14 : decode cX5_restore 14 = .ok (.iload_n 1, 1) := by decide +kernel
theorem dX5_restore_15 : decode cX5_restore 15 = .ok (.aaload, 1) := by decide +kernel
theorem dX5_restore_16 : decode cX5_restore 16 = .ok (.getfield 203, 3) := by decide +kernel
theorem dX5_restore_19 : decode cX5_restore 19 = .ok (.ifCond .ne 6, 3) := by decide +kernel
theorem dX5_restore_22 : decode cX5_restore 22 = .ok (.bipush (-5), 2) := by decide +kernel
theorem dX5_restore_24 : decode cX5_restore 24 = .ok (.ireturn, 1) := by decide +kernel
theorem dX5_restore_25 : decode cX5_restore 25 = .ok (.aload_n 0, 1) := by decide +kernel
theorem dX5_restore_26 : decode cX5_restore 26 = .ok (.getfield 19, 3) := by decide +kernel
theorem dX5_restore_29 : decode cX5_restore 29 = .ok (.aload_n 0, 1) := by decide +kernel
theorem dX5_restore_30 : decode cX5_restore 30 = .ok (.getfield 12, 3) := by decide +kernel
theorem dX5_restore_33 : decode cX5_restore 33 = .ok (.invokevirtual 207, 3) := by decide +kernel
theorem dX5_restore_36 : decode cX5_restore 36 = .ok (.aload_n 0, 1) := by decide +kernel
theorem dX5_restore_37 : decode cX5_restore 37 = .ok (.getfield 12, 3) := by decide +kernel
theorem dX5_restore_40 : decode cX5_restore 40 = .ok (.aload_n 0, 1) := by decide +kernel
theorem dX5_restore_41 : decode cX5_restore 41 = .ok (.getfield 25, 3) := by decide +kernel
theorem dX5_restore_44 : decode cX5_restore 44 = .ok (.iload_n 1, 1) := by decide +kernel
theorem dX5_restore_45 : decode cX5_restore 45 = .ok (.aaload, 1) := by decide +kernel
theorem dX5_restore_46 : decode cX5_restore 46 = .ok (.getfield 198, 3) := by decide +kernel
theorem dX5_restore_49 : decode cX5_restore 49 = .ok (.invokevirtual 201, 3) := by decide +kernel
theorem dX5_restore_52 : decode cX5_restore 52 = .ok (.aload_n 0, 1) := by decide +kernel
theorem dX5_restore_53 : decode cX5_restore 53 = .ok (.getfield 12, 3) := by decide +kernel
theorem dX5_restore_56 : decode cX5_restore 56 = .ok (.invokevirtual 156, 3) := by decide +kernel
theorem dX5_restore_59 : decode cX5_restore 59 = .ok (.ireturn, 1) := by decide +kernel
theorem dX5_beginChange_0 : decode cX5_beginChange 0 = .ok (.aload_n 0, 1) := by decide +kernel
theorem dX5_beginChange_1 : decode cX5_beginChange 1 = .ok (.getfield 19, 3) := by decide +kernel
theorem dX5_beginChange_4 : decode cX5_beginChange 4 = .ok (.aload_n 0, 1) := by decide +kernel
theorem dX5_beginChange_5 : decode cX5_beginChange 5 = .ok (.getfield 12, 3) := by decide +kernel
theorem dX5_beginChange_8 : decode cX5_beginChange 8 = .ok (.invokevirtual 207, 3) := by decide +kernel
theorem dX5_beginChange_11 : decode cX5_beginChange 11 = .ok (.aload_n 0, 1) := by decide +kernel
theorem dX5_beginChange_12 : decode cX5_beginChange 12 = .ok (.getfield 12, 3) := by decide +kernel
theorem dX5_beginChange_15 : decode cX5_beginChange 15 = .ok (.dup, 1) := by decide +kernel
theorem dX5_beginChange_16 : decode cX5_beginChange 16 = .ok (.getfield 160, 3) := by decide +kernel
theorem dX5_beginChange_19 : decode cX5_beginChange 19 = .ok (.iconst 1, 1) := by decide +kernel
theorem dX5_beginChange_20 : decode cX5_beginChange 20 = .ok (.iadd, 1) := by decide +kernel
theorem dX5_beginChange_21 : decode cX5_beginChange 21 = .ok (.putfield 160, 3) := by decide +kernel
theorem dX5_beginChange_24 : decode cX5_beginChange 24 = .ok (.return_, 1) := by decide +kernel
theorem dX5_isMatrix_0 : decode cX5_isMatrix 0 = .ok (.iload_n 0, 1) := by decide +kernel
theorem dX5_isMatrix_1 : decode cX5_isMatrix 1 = .ok (.ifCond .lt 12, 3) := by decide +kernel
theorem dX5_isMatrix_4 : decode cX5_isMatrix 4 = .ok (.iload_n 0, 1) := by decide +kernel
theorem dX5_isMatrix_5 : decode cX5_isMatrix 5 = .ok (.iconst 4, 1) := by decide +kernel
theorem dX5_isMatrix_6 : decode cX5_isMatrix 6 = .ok (.if_icmp .ge 7, 3) := by decide +kernel
theorem dX5_isMatrix_9 : decode cX5_isMatrix 9 = .ok (.iconst 1, 1) := by decide +kernel
theorem dX5_isMatrix_10 : decode cX5_isMatrix 10 = .ok (.goto 4, 3) := by decide +kernel
theorem dX5_isMatrix_13 : decode cX5_isMatrix 13 = .ok (.iconst 0, 1) := by decide +kernel
theorem dX5_isMatrix_14 : decode cX5_isMatrix 14 = .ok (.ireturn, 1) := by decide +kernel
theorem dX5_isSlot_0 : decode cX5_isSlot 0 = .ok (.iload_n 0, 1) := by decide +kernel
theorem dX5_isSlot_1 : decode cX5_isSlot 1 = .ok (.ifCond .lt 12, 3) := by decide +kernel
theorem dX5_isSlot_4 : decode cX5_isSlot 4 = .ok (.iload_n 0, 1) := by decide +kernel
theorem dX5_isSlot_5 : decode cX5_isSlot 5 = .ok (.iconst 2, 1) := by decide +kernel
theorem dX5_isSlot_6 : decode cX5_isSlot 6 = .ok (.if_icmp .ge 7, 3) := by decide +kernel
theorem dX5_isSlot_9 : decode cX5_isSlot 9 = .ok (.iconst 1, 1) := by decide +kernel
theorem dX5_isSlot_10 : decode cX5_isSlot 10 = .ok (.goto 4, 3) := by decide +kernel
theorem dX5_isSlot_13 : decode cX5_isSlot 13 = .ok (.iconst 0, 1) := by decide +kernel
theorem dX5_isSlot_14 : decode cX5_isSlot 14 = .ok (.ireturn, 1) := by decide +kernel
theorem dX5_isPlace_0 : decode cX5_isPlace 0 = .ok (.iload_n 0, 1) := by decide +kernel
theorem dX5_isPlace_1 : decode cX5_isPlace 1 = .ok (.invokestatic 48, 3) := by decide +kernel
theorem dX5_isPlace_4 : decode cX5_isPlace 4 = .ok (.ifCond .eq 27, 3) := by decide +kernel
theorem dX5_isPlace_7 : decode cX5_isPlace 7 = .ok (.iload_n 1, 1) := by decide +kernel
theorem dX5_isPlace_8 : decode cX5_isPlace 8 = .ok (.ifCond .lt 23, 3) := by decide +kernel
theorem dX5_isPlace_11 : decode cX5_isPlace 11 = .ok (.iload_n 1, 1) := by decide +kernel
theorem dX5_isPlace_12 : decode cX5_isPlace 12 = .ok (.bipush 16, 2) := by decide +kernel
theorem dX5_isPlace_14 : decode cX5_isPlace 14 = .ok (.if_icmp .ge 17, 3) := by decide +kernel
theorem dX5_isPlace_17 : decode cX5_isPlace 17 = .ok (.iload_n 2, 1) := by decide +kernel
theorem dX5_isPlace_18 : decode cX5_isPlace 18 = .ok (.ifCond .lt 13, 3) := by decide +kernel
theorem dX5_isPlace_21 : decode cX5_isPlace 21 = .ok (.iload_n 2, 1) := by decide +kernel
theorem dX5_isPlace_22 : decode cX5_isPlace 22 = .ok (.bipush 16, 2) := by decide +kernel
theorem dX5_isPlace_24 : decode cX5_isPlace 24 = .ok (.if_icmp .ge 7, 3) := by decide +kernel
theorem dX5_isPlace_27 : decode cX5_isPlace 27 = .ok (.iconst 1, 1) := by decide +kernel
theorem dX5_isPlace_28 : decode cX5_isPlace 28 = .ok (.goto 4, 3) := by decide +kernel
theorem dX5_isPlace_31 : decode cX5_isPlace 31 = .ok (.iconst 0, 1) := by decide +kernel
theorem dX5_isPlace_32 : decode cX5_isPlace 32 = .ok (.ireturn, 1) := by decide +kernel
theorem dX5_isWithin_0 : decode cX5_isWithin 0 = .ok (.iload_n 0, 1) := by decide +kernel
theorem dX5_isWithin_1 : decode cX5_isWithin 1 = .ok (.iload_n 1, 1) := by decide +kernel
theorem dX5_isWithin_2 : decode cX5_isWithin 2 = .ok (.ineg, 1) := by decide +kernel
theorem dX5_isWithin_3 : decode cX5_isWithin 3 = .ok (.if_icmp .lt 12, 3) := by decide +kernel
theorem dX5_isWithin_6 : decode cX5_isWithin 6 = .ok (.iload_n 0, 1) := by decide +kernel
theorem dX5_isWithin_7 : decode cX5_isWithin 7 = .ok (.iload_n 1, 1) := by decide +kernel
theorem dX5_isWithin_8 : decode cX5_isWithin 8 = .ok (.if_icmp .gt 7, 3) := by decide +kernel
theorem dX5_isWithin_11 : decode cX5_isWithin 11 = .ok (.iconst 1, 1) := by decide +kernel
theorem dX5_isWithin_12 : decode cX5_isWithin 12 = .ok (.goto 4, 3) := by decide +kernel
theorem dX5_isWithin_15 : decode cX5_isWithin 15 = .ok (.iconst 0, 1) := by decide +kernel
theorem dX5_isWithin_16 : decode cX5_isWithin 16 = .ok (.ireturn, 1) := by decide +kernel
theorem dX5_sizeAt_0 : decode cX5_sizeAt 0 = .ok (.bipush 16, 2) := by decide +kernel
theorem dX5_sizeAt_2 : decode cX5_sizeAt 2 = .ok (.iload_n 0, 1) := by decide +kernel
theorem dX5_sizeAt_3 : decode cX5_sizeAt 3 = .ok (.ishr, 1) := by decide +kernel
theorem dX5_sizeAt_4 : decode cX5_sizeAt 4 = .ok (.ireturn, 1) := by decide +kernel
theorem dX5_firstOf_0 : decode cX5_firstOf 0 = .ok (.iload_n 1, 1) := by decide +kernel
theorem dX5_firstOf_1 : decode cX5_firstOf 1 = .ok (.iload_n 0, 1) := by decide +kernel
theorem dX5_firstOf_2 : decode cX5_firstOf 2 = .ok (.invokestatic 115, 3) := by decide +kernel
theorem dX5_firstOf_5 : decode cX5_firstOf 5 = .ok (.ineg, 1) := by decide +kernel
theorem dX5_firstOf_6 : decode cX5_firstOf 6 = .ok (.iand, 1) := by decide +kernel
theorem dX5_firstOf_7 : decode cX5_firstOf 7 = .ok (.ireturn, 1) := by decide +kernel
theorem dX5_roomOfUncut_0 : decode cX5_roomOfUncut 0 = .ok (.iload_n 0, 1) := by decide +kernel
theorem dX5_roomOfUncut_1 : decode cX5_roomOfUncut 1 = .ok (.iconst 1, 1) := by decide +kernel
theorem dX5_roomOfUncut_2 : decode cX5_roomOfUncut 2 = .ok (.if_icmp .ne 7, 3) := by decide +kernel
theorem dX5_roomOfUncut_5 : decode cX5_roomOfUncut 5 = .ok (.iload_n 1, 1) := by decide +kernel
theorem dX5_roomOfUncut_6 : decode cX5_roomOfUncut 6 = .ok (.iload_n 1, 1) := by decide +kernel
theorem dX5_roomOfUncut_7 : decode cX5_roomOfUncut 7 = .ok (.imul, 1) := by decide +kernel
theorem dX5_roomOfUncut_8 : decode cX5_roomOfUncut 8 = .ok (.ireturn, 1) := by decide +kernel
theorem dX5_roomOfUncut_9 : decode cX5_roomOfUncut 9 = .ok (.iload_n 0, 1) := by decide +kernel
theorem dX5_roomOfUncut_10 : decode cX5_roomOfUncut 10 = .ok (.iconst 2, 1) := by decide +kernel
theorem dX5_roomOfUncut_11 : decode cX5_roomOfUncut 11 = .ok (.if_icmp .ne 9, 3) := by decide +kernel
theorem dX5_roomOfUncut_14 : decode cX5_roomOfUncut 14 = .ok (.iconst 2, 1) := by decide +kernel
theorem dX5_roomOfUncut_15 : decode cX5_roomOfUncut 15 = .ok (.iload_n 1, 1) := by decide +kernel
theorem dX5_roomOfUncut_16 : decode cX5_roomOfUncut 16 = .ok (.imul, 1) := by decide +kernel
theorem dX5_roomOfUncut_17 : decode cX5_roomOfUncut 17 = .ok (.goto 4, 3) := by decide +kernel
theorem dX5_roomOfUncut_20 : decode cX5_roomOfUncut 20 = .ok (.iconst 0, 1) := by decide +kernel
theorem dX5_roomOfUncut_21 : decode cX5_roomOfUncut 21 = .ok (.ireturn, 1) := by decide +kernel
theorem dX5_signsIn_0 : decode cX5_signsIn 0 = .ok (.lload_n 0, 1) := by decide +kernel
theorem dX5_signsIn_1 : decode cX5_signsIn 1 = .ok (.lstore_n 2, 1) := by decide +kernel
theorem dX5_signsIn_2 : decode cX5_signsIn 2 = .ok (.iconst 0, 1) := by decide +kernel
theorem dX5_signsIn_3 : decode cX5_signsIn 3 = .ok (.istore 4, 2) := by decide +kernel
theorem dX5_signsIn_5 : decode cX5_signsIn 5 = .ok (.lload_n 2, 1) := by decide +kernel
theorem dX5_signsIn_6 : decode cX5_signsIn 6 = .ok (.lconst 0, 1) := by decide +kernel
theorem dX5_signsIn_7 : decode cX5_signsIn 7 = .ok (.lcmp, 1) := by decide +kernel
theorem dX5_signsIn_8 : decode cX5_signsIn 8 = .ok (.ifCond .eq 48, 3) := by decide +kernel
theorem dX5_signsIn_11 : decode cX5_signsIn 11 = .ok (.iload 4, 2) := by decide +kernel
theorem dX5_signsIn_13 : decode cX5_signsIn 13 = .ok (.bipush 8, 2) := by decide +kernel
theorem dX5_signsIn_15 : decode cX5_signsIn 15 = .ok (.if_icmp .ge 41, 3) := by decide +kernel
theorem dX5_signsIn_18 : decode cX5_signsIn 18 = .ok (.lload_n 2, 1) := by decide +kernel
theorem dX5_signsIn_19 : decode cX5_signsIn 19 = .ok (.ldc2_w 182, 3) := by decide +kernel
theorem dX5_signsIn_22 : decode cX5_signsIn 22 = .ok (.land, 1) := by decide +kernel
theorem dX5_signsIn_23 : decode cX5_signsIn 23 = .ok (.lstore 5, 2) := by decide +kernel
theorem dX5_signsIn_25 : decode cX5_signsIn 25 = .ok (.lload 5, 2) := by decide +kernel
theorem dX5_signsIn_27 : decode cX5_signsIn 27 = .ok (.ldc2_w 221, 3) := by decide +kernel
theorem dX5_signsIn_30 : decode cX5_signsIn 30 = .ok (.lcmp, 1) := by decide +kernel
theorem dX5_signsIn_31 : decode cX5_signsIn 31 = .ok (.ifCond .lt 12, 3) := by decide +kernel
theorem dX5_signsIn_34 : decode cX5_signsIn 34 = .ok (.lload 5, 2) := by decide +kernel
theorem dX5_signsIn_36 : decode cX5_signsIn 36 = .ok (.ldc2_w 223, 3) := by decide +kernel
theorem dX5_signsIn_39 : decode cX5_signsIn 39 = .ok (.lcmp, 1) := by decide +kernel
theorem dX5_signsIn_40 : decode cX5_signsIn 40 = .ok (.ifCond .le 5, 3) := by decide +kernel
theorem dX5_signsIn_43 : decode cX5_signsIn 43 = .ok (.iconst 0, 1) := by decide +kernel
theorem dX5_signsIn_44 : decode cX5_signsIn 44 = .ok (.ireturn, 1) := by decide +kernel
theorem dX5_signsIn_45 : decode cX5_signsIn 45 = .ok (.lload_n 2, 1) := by decide +kernel
theorem dX5_signsIn_46 : decode cX5_signsIn 46 = .ok (.bipush 8, 2) := by decide +kernel
theorem dX5_signsIn_48 : decode cX5_signsIn 48 = .ok (.lushr, 1) := by decide +kernel
theorem dX5_signsIn_49 : decode cX5_signsIn 49 = .ok (.lstore_n 2, 1) := by decide +kernel
theorem dX5_signsIn_50 : decode cX5_signsIn 50 = .ok (.iinc 4 1, 3) := by decide +kernel
theorem dX5_signsIn_53 : decode cX5_signsIn 53 = .ok (.goto (-48), 3) := by decide +kernel
theorem dX5_signsIn_56 : decode cX5_signsIn 56 = .ok (.iload 4, 2) := by decide +kernel
theorem dX5_signsIn_58 : decode cX5_signsIn 58 = .ok (.ireturn, 1) := by decide +kernel

theorem dX6_init_0 : decode cX6_init 0 = .ok (.aload_n 0, 1) := by decide +kernel
theorem dX6_init_1 : decode cX6_init 1 = .ok (.invokespecial 1, 3) := by decide +kernel
theorem dX6_init_4 : decode cX6_init 4 = .ok (.aload_n 0, 1) := by decide +kernel
theorem dX6_init_5 : decode cX6_init 5 = .ok (.sipush 1365, 3) := by decide +kernel
theorem dX6_init_8 : decode cX6_init 8 = .ok (.newarray .int, 2) := by decide +kernel
theorem dX6_init_10 : decode cX6_init 10 = .ok (.putfield 7, 3) := by decide +kernel
theorem dX6_init_13 : decode cX6_init 13 = .ok (.aload_n 0, 1) := by decide +kernel
theorem dX6_init_14 : decode cX6_init 14 = .ok (.sipush 1365, 3) := by decide +kernel
theorem dX6_init_17 : decode cX6_init 17 = .ok (.newarray .int, 2) := by decide +kernel
theorem dX6_init_19 : decode cX6_init 19 = .ok (.putfield 13, 3) := by decide +kernel
theorem dX6_init_22 : decode cX6_init 22 = .ok (.aload_n 0, 1) := by decide +kernel
theorem dX6_init_23 : decode cX6_init 23 = .ok (.sipush 8190, 3) := by decide +kernel
theorem dX6_init_26 : decode cX6_init 26 = .ok (.newarray .int, 2) := by decide +kernel
theorem dX6_init_28 : decode cX6_init 28 = .ok (.putfield 16, 3) := by decide +kernel
theorem dX6_init_31 : decode cX6_init 31 = .ok (.aload_n 0, 1) := by decide +kernel
theorem dX6_init_32 : decode cX6_init 32 = .ok (.sipush 2730, 3) := by decide +kernel
theorem dX6_init_35 : decode cX6_init 35 = .ok (.newarray .int, 2) := by decide +kernel
theorem dX6_init_37 : decode cX6_init 37 = .ok (.putfield 19, 3) := by decide +kernel
theorem dX6_init_40 : decode cX6_init 40 = .ok (.aload_n 0, 1) := by decide +kernel
theorem dX6_init_41 : decode cX6_init 41 = .ok (.iconst 2, 1) := by decide +kernel
theorem dX6_init_42 : decode cX6_init 42 = .ok (.newarray .boolean, 2) := by decide +kernel
theorem dX6_init_44 : decode cX6_init 44 = .ok (.putfield 22, 3) := by decide +kernel
theorem dX6_init_47 : decode cX6_init 47 = .ok (.aload_n 0, 1) := by decide +kernel
theorem dX6_init_48 : decode cX6_init 48 = .ok (.bipush 80, 2) := by decide +kernel
theorem dX6_init_50 : decode cX6_init 50 = .ok (.newarray .int, 2) := by decide +kernel
theorem dX6_init_52 : decode cX6_init 52 = .ok (.putfield 26, 3) := by decide +kernel
theorem dX6_init_55 : decode cX6_init 55 = .ok (.aload_n 0, 1) := by decide +kernel
theorem dX6_init_56 : decode cX6_init 56 = .ok (.sipush 341, 3) := by decide +kernel
theorem dX6_init_59 : decode cX6_init 59 = .ok (.newarray .int, 2) := by decide +kernel
theorem dX6_init_61 : decode cX6_init 61 = .ok (.putfield 29, 3) := by decide +kernel
theorem dX6_init_64 : decode cX6_init 64 = .ok (.aload_n 0, 1) := by decide +kernel
theorem dX6_init_65 : decode cX6_init 65 = .ok (.sipush 256, 3) := by decide +kernel
theorem dX6_init_68 : decode cX6_init 68 = .ok (.newarray .int, 2) := by decide +kernel
theorem dX6_init_70 : decode cX6_init 70 = .ok (.putfield 32, 3) := by decide +kernel
theorem dX6_init_73 : decode cX6_init 73 = .ok (.aload_n 0, 1) := by decide +kernel
theorem dX6_init_74 : decode cX6_init 74 = .ok (.bipush 16, 2) := by decide +kernel
theorem dX6_init_76 : decode cX6_init 76 = .ok (.newarray .int, 2) := by decide +kernel
theorem dX6_init_78 : decode cX6_init 78 = .ok (.putfield 35, 3) := by decide +kernel
theorem dX6_init_81 : decode cX6_init 81 = .ok (.aload_n 0, 1) := by decide +kernel
theorem dX6_init_82 : decode cX6_init 82 = .ok (.bipush 85, 2) := by decide +kernel
theorem dX6_init_84 : decode cX6_init 84 = .ok (.newarray .boolean, 2) := by decide +kernel
theorem dX6_init_86 : decode cX6_init 86 = .ok (.putfield 38, 3) := by decide +kernel
theorem dX6_init_89 : decode cX6_init 89 = .ok (.aload_n 0, 1) := by decide +kernel
theorem dX6_init_90 : decode cX6_init 90 = .ok (.iconst 0, 1) := by decide +kernel
theorem dX6_init_91 : decode cX6_init 91 = .ok (.putfield 41, 3) := by decide +kernel
theorem dX6_init_94 : decode cX6_init 94 = .ok (.return_, 1) := by decide +kernel
theorem dX6_in_0 : decode cX6_in 0 = .ok (.iload_n 0, 1) := by decide +kernel
theorem dX6_in_1 : decode cX6_in 1 = .ok (.iload_n 1, 1) := by decide +kernel
theorem dX6_in_2 : decode cX6_in 2 = .ok (.if_icmp .lt 12, 3) := by decide +kernel
theorem dX6_in_5 : decode cX6_in 5 = .ok (.iload_n 0, 1) := by decide +kernel
theorem dX6_in_6 : decode cX6_in 6 = .ok (.iload_n 2, 1) := by decide +kernel
theorem dX6_in_7 : decode cX6_in 7 = .ok (.if_icmp .gt 7, 3) := by decide +kernel
theorem dX6_in_10 : decode cX6_in 10 = .ok (.iconst 1, 1) := by decide +kernel
theorem dX6_in_11 : decode cX6_in 11 = .ok (.goto 4, 3) := by decide +kernel
theorem dX6_in_14 : decode cX6_in 14 = .ok (.iconst 0, 1) := by decide +kernel
theorem dX6_in_15 : decode cX6_in 15 = .ok (.ireturn, 1) := by decide +kernel
theorem dX6_isMatrix_0 : decode cX6_isMatrix 0 = .ok (.iload_n 0, 1) := by decide +kernel
theorem dX6_isMatrix_1 : decode cX6_isMatrix 1 = .ok (.iconst 0, 1) := by decide +kernel
theorem dX6_isMatrix_2 : decode cX6_isMatrix 2 = .ok (.iconst 3, 1) := by decide +kernel
theorem dX6_isMatrix_3 : decode cX6_isMatrix 3 = .ok (.invokestatic 45, 3) := by decide +kernel
theorem dX6_isMatrix_6 : decode cX6_isMatrix 6 = .ok (.ireturn, 1) := by decide +kernel
theorem dX6_isPlace_0 : decode cX6_isPlace 0 = .ok (.iload_n 0, 1) := by decide +kernel
theorem dX6_isPlace_1 : decode cX6_isPlace 1 = .ok (.iconst 0, 1) := by decide +kernel
theorem dX6_isPlace_2 : decode cX6_isPlace 2 = .ok (.bipush 15, 2) := by decide +kernel
theorem dX6_isPlace_4 : decode cX6_isPlace 4 = .ok (.invokestatic 45, 3) := by decide +kernel
theorem dX6_isPlace_7 : decode cX6_isPlace 7 = .ok (.ifCond .eq 17, 3) := by decide +kernel
theorem dX6_isPlace_10 : decode cX6_isPlace 10 = .ok (.iload_n 1, 1) := by decide +kernel
theorem dX6_isPlace_11 : decode cX6_isPlace 11 = .ok (.iconst 0, 1) := by decide +kernel
theorem dX6_isPlace_12 : decode cX6_isPlace 12 = .ok (.bipush 15, 2) := by decide +kernel
theorem dX6_isPlace_14 : decode cX6_isPlace 14 = .ok (.invokestatic 45, 3) := by decide +kernel
theorem dX6_isPlace_17 : decode cX6_isPlace 17 = .ok (.ifCond .eq 7, 3) := by decide +kernel
theorem dX6_isPlace_20 : decode cX6_isPlace 20 = .ok (.iconst 1, 1) := by decide +kernel
theorem dX6_isPlace_21 : decode cX6_isPlace 21 = .ok (.goto 4, 3) := by decide +kernel
theorem dX6_isPlace_24 : decode cX6_isPlace 24 = .ok (.iconst 0, 1) := by decide +kernel
theorem dX6_isPlace_25 : decode cX6_isPlace 25 = .ok (.ireturn, 1) := by decide +kernel
theorem dX6_sizeAt_0 : decode cX6_sizeAt 0 = .ok (.bipush 16, 2) := by decide +kernel
theorem dX6_sizeAt_2 : decode cX6_sizeAt 2 = .ok (.iload_n 0, 1) := by decide +kernel
theorem dX6_sizeAt_3 : decode cX6_sizeAt 3 = .ok (.ishr, 1) := by decide +kernel
theorem dX6_sizeAt_4 : decode cX6_sizeAt 4 = .ok (.ireturn, 1) := by decide +kernel
theorem dX6_node_0 : decode cX6_node 0 = .ok (.iload_n 0, 1) := by decide +kernel
theorem dX6_node_1 : decode cX6_node 1 = .ok (.ifCond .ne 7, 3) := by decide +kernel
theorem dX6_node_4 : decode cX6_node 4 = .ok (.iconst 0, 1) := by decide +kernel
theorem dX6_node_5 : decode cX6_node 5 = .ok (.goto 23, 3) := by decide +kernel
theorem dX6_node_8 : decode cX6_node 8 = .ok (.iload_n 0, 1) := by decide +kernel
theorem dX6_node_9 : decode cX6_node 9 = .ok (.iconst 1, 1) := by decide +kernel
theorem dX6_node_10 : decode cX6_node 10 = .ok (.if_icmp .ne 7, 3) := by decide +kernel
theorem dX6_node_13 : decode cX6_node 13 = .ok (.iconst 1, 1) := by decide +kernel
theorem dX6_node_14 : decode cX6_node 14 = .ok (.goto 14, 3) := by decide +kernel
theorem dX6_node_17 : decode cX6_node 17 = .ok (.iload_n 0, 1) := by decide +kernel
theorem dX6_node_18 : decode cX6_node 18 = .ok (.iconst 2, 1) := by decide +kernel
theorem dX6_node_19 : decode cX6_node 19 = .ok (.if_icmp .ne 7, 3) := by decide +kernel
theorem dX6_node_22 : decode cX6_node 22 = .ok (.iconst 5, 1) := by decide +kernel
theorem dX6_node_23 : decode cX6_node 23 = .ok (.goto 5, 3) := by decide +kernel
theorem dX6_node_26 : decode cX6_node 26 = .ok (.bipush 21, 2) := by decide +kernel
theorem dX6_node_28 : decode cX6_node 28 = .ok (.istore_n 3, 1) := by decide +kernel
theorem dX6_node_29 : decode cX6_node 29 = .ok (.iload_n 3, 1) := by decide +kernel
theorem dX6_node_30 : decode cX6_node 30 = .ok (.iload_n 1, 1) := by decide +kernel
theorem dX6_node_31 : decode cX6_node 31 = .ok (.iload_n 0, 1) := by decide +kernel
theorem dX6_node_32 : decode cX6_node 32 = .ok (.ishl, 1) := by decide +kernel
theorem dX6_node_33 : decode cX6_node 33 = .ok (.iadd, 1) := by decide +kernel
theorem dX6_node_34 : decode cX6_node 34 = .ok (.iload_n 2, 1) := by decide +kernel
theorem dX6_node_35 : decode cX6_node 35 = .ok (.iadd, 1) := by decide +kernel
theorem dX6_node_36 : decode cX6_node 36 = .ok (.ireturn, 1) := by decide +kernel
theorem dX6_sort_0 : decode cX6_sort 0 = .ok (.aload_n 0, 1) := by decide +kernel
theorem dX6_sort_1 : decode cX6_sort 1 = .ok (.getfield 7, 3) := by decide +kernel
theorem dX6_sort_4 : decode cX6_sort 4 = .ok (.sipush 341, 3) := by decide +kernel
theorem dX6_sort_7 : decode cX6_sort 7 = .ok (.iload_n 1, 1) := by decide +kernel
theorem dX6_sort_8 : decode cX6_sort 8 = .ok (.imul, 1) := by decide +kernel
theorem dX6_sort_9 : decode cX6_sort 9 = .ok (.iload_n 2, 1) := by decide +kernel
theorem dX6_sort_10 : decode cX6_sort 10 = .ok (.iload_n 3, 1) := by decide +kernel
theorem dX6_sort_11 : decode cX6_sort 11 = .ok (.iload 4, 2) := by decide +kernel
theorem dX6_sort_13 : decode cX6_sort 13 = .ok (.invokestatic 49, 3) := by decide +kernel
theorem dX6_sort_16 : decode cX6_sort 16 = .ok (.iadd, 1) := by decide +kernel
theorem dX6_sort_17 : decode cX6_sort 17 = .ok (.iaload, 1) := by decide +kernel
theorem dX6_sort_18 : decode cX6_sort 18 = .ok (.ireturn, 1) := by decide +kernel
theorem dX6_sorts_0 : decode cX6_sorts 0 = .ok (.aload_n 0, 1) := by decide +kernel
theorem dX6_sorts_1 : decode cX6_sorts 1 = .ok (.getfield 7, 3) := by decide +kernel
theorem dX6_sorts_4 : decode cX6_sorts 4 = .ok (.sipush 341, 3) := by decide +kernel
theorem dX6_sorts_7 : decode cX6_sorts 7 = .ok (.iload_n 1, 1) := by decide +kernel
theorem dX6_sorts_8 : decode cX6_sorts 8 = .ok (.imul, 1) := by decide +kernel
theorem dX6_sorts_9 : decode cX6_sorts 9 = .ok (.iload_n 2, 1) := by decide +kernel
theorem dX6_sorts_10 : decode cX6_sorts 10 = .ok (.iload_n 3, 1) := by decide +kernel
theorem dX6_sorts_11 : decode cX6_sorts 11 = .ok (.iload 4, 2) := by decide +kernel
theorem dX6_sorts_13 : decode cX6_sorts 13 = .ok (.invokestatic 49, 3) := by decide +kernel
theorem dX6_sorts_16 : decode cX6_sorts 16 = .ok (.iadd, 1) := by decide +kernel
theorem dX6_sorts_17 : decode cX6_sorts 17 = .ok (.iload 5, 2) := by decide +kernel
theorem dX6_sorts_19 : decode cX6_sorts 19 = .ok (.iastore, 1) := by decide +kernel
theorem dX6_sorts_20 : decode cX6_sorts 20 = .ok (.return_, 1) := by decide +kernel
theorem dX6_get_0 : decode cX6_get 0 = .ok (.aload_n 0, 1) := by decide +kernel
theorem dX6_get_1 : decode cX6_get 1 = .ok (.getfield 7, 3) := by decide +kernel
theorem dX6_get_4 : decode cX6_get 4 = .ok (.sipush 341, 3) := by decide +kernel
theorem dX6_get_7 : decode cX6_get 7 = .ok (.iload_n 1, 1) := by decide +kernel
theorem dX6_get_8 : decode cX6_get 8 = .ok (.imul, 1) := by decide +kernel
theorem dX6_get_9 : decode cX6_get 9 = .ok (.bipush 85, 2) := by decide +kernel
theorem dX6_get_11 : decode cX6_get 11 = .ok (.iadd, 1) := by decide +kernel
theorem dX6_get_12 : decode cX6_get 12 = .ok (.bipush 16, 2) := by decide +kernel
theorem dX6_get_14 : decode cX6_get 14 = .ok (.iload_n 2, 1) := by decide +kernel
theorem dX6_get_15 : decode cX6_get 15 = .ok (.imul, 1) := by decide +kernel
theorem dX6_get_16 : decode cX6_get 16 = .ok (.iadd, 1) := by decide +kernel
theorem dX6_get_17 : decode cX6_get 17 = .ok (.iload_n 3, 1) := by decide +kernel
theorem dX6_get_18 : decode cX6_get 18 = .ok (.iadd, 1) := by decide +kernel
theorem dX6_get_19 : decode cX6_get 19 = .ok (.iaload, 1) := by decide +kernel
theorem dX6_get_20 : decode cX6_get 20 = .ok (.ireturn, 1) := by decide +kernel
theorem dX6_lay_0 : decode cX6_lay 0 = .ok (.aload_n 0, 1) := by decide +kernel
theorem dX6_lay_1 : decode cX6_lay 1 = .ok (.getfield 7, 3) := by decide +kernel
theorem dX6_lay_4 : decode cX6_lay 4 = .ok (.sipush 341, 3) := by decide +kernel
theorem dX6_lay_7 : decode cX6_lay 7 = .ok (.iload_n 1, 1) := by decide +kernel
theorem dX6_lay_8 : decode cX6_lay 8 = .ok (.imul, 1) := by decide +kernel
theorem dX6_lay_9 : decode cX6_lay 9 = .ok (.bipush 85, 2) := by decide +kernel
theorem dX6_lay_11 : decode cX6_lay 11 = .ok (.iadd, 1) := by decide +kernel
theorem dX6_lay_12 : decode cX6_lay 12 = .ok (.bipush 16, 2) := by decide +kernel
theorem dX6_lay_14 : decode cX6_lay 14 = .ok (.iload_n 2, 1) := by decide +kernel
theorem dX6_lay_15 : decode cX6_lay 15 = .ok (.imul, 1) := by decide +kernel
theorem dX6_lay_16 : decode cX6_lay 16 = .ok (.iadd, 1) := by decide +kernel
theorem dX6_lay_17 : decode cX6_lay 17 = .ok (.iload_n 3, 1) := by decide +kernel
theorem dX6_lay_18 : decode cX6_lay 18 = .ok (.iadd, 1) := by decide +kernel
theorem dX6_lay_19 : decode cX6_lay 19 = .ok (.iload 4, 2) := by decide +kernel
theorem dX6_lay_21 : decode cX6_lay 21 = .ok (.iastore, 1) := by decide +kernel
theorem dX6_lay_22 : decode cX6_lay 22 = .ok (.return_, 1) := by decide +kernel
theorem dX6_records_0 : decode cX6_records 0 = .ok (.aload_n 0, 1) := by decide +kernel
theorem dX6_records_1 : decode cX6_records 1 = .ok (.getfield 53, 3) := by decide +kernel
theorem dX6_records_4 : decode cX6_records 4 = .ok (.bipush 6, 2) := by decide +kernel
theorem dX6_records_6 : decode cX6_records 6 = .ok (.if_icmp .ne 44, 3) := by decide +kernel
theorem dX6_records_9 : decode cX6_records 9 = .ok (.iconst 0, 1) := by decide +kernel
theorem dX6_records_10 : decode cX6_records 10 = .ok (.istore_n 1, 1) := by decide +kernel
theorem dX6_records_11 : decode cX6_records 11 = .ok (.iload_n 1, 1) := by decide +kernel
theorem dX6_records_12 : decode cX6_records 12 = .ok (.sipush 6825, 3) := by decide +kernel
theorem dX6_records_15 : decode cX6_records 15 = .ok (.if_icmp .ge 25, 3) := by decide +kernel
theorem dX6_records_18 : decode cX6_records 18 = .ok (.aload_n 0, 1) := by decide +kernel
theorem dX6_records_19 : decode cX6_records 19 = .ok (.getfield 16, 3) := by decide +kernel
theorem dX6_records_22 : decode cX6_records 22 = .ok (.iload_n 1, 1) := by decide +kernel
theorem dX6_records_23 : decode cX6_records 23 = .ok (.aload_n 0, 1) := by decide +kernel
theorem dX6_records_24 : decode cX6_records 24 = .ok (.getfield 16, 3) := by decide +kernel
theorem dX6_records_27 : decode cX6_records 27 = .ok (.iload_n 1, 1) := by decide +kernel
theorem dX6_records_28 : decode cX6_records 28 = .ok (.sipush 1365, 3) := by decide +kernel
theorem dX6_records_31 : decode cX6_records 31 = .ok (.iadd, 1) := by decide +kernel
theorem dX6_records_32 : decode cX6_records 32 = .ok (.iaload, 1) := by decide +kernel
theorem dX6_records_33 : decode cX6_records 33 = .ok (.iastore, 1) := by decide +kernel
theorem dX6_records_34 : decode cX6_records 34 = .ok (.iinc 1 1, 3) := by decide +kernel
theorem dX6_records_37 : decode cX6_records 37 = .ok (.goto (-26), 3) := by decide +kernel
theorem dX6_records_40 : decode cX6_records 40 = .ok (.aload_n 0, 1) := by decide +kernel
theorem dX6_records_41 : decode cX6_records 41 = .ok (.dup, 1) := by decide +kernel
theorem dX6_records_42 : decode cX6_records 42 = .ok (.getfield 53, 3) := by decide +kernel
theorem dX6_records_45 : decode cX6_records 45 = .ok (.iconst 1, 1) := by decide +kernel
theorem dX6_records_46 : decode cX6_records 46 = .ok (.isub, 1) := by decide +kernel
theorem dX6_records_47 : decode cX6_records 47 = .ok (.putfield 53, 3) := by decide +kernel
theorem dX6_records_50 : decode cX6_records 50 = .ok (.iconst 0, 1) := by decide +kernel
theorem dX6_records_51 : decode cX6_records 51 = .ok (.istore_n 1, 1) := by decide +kernel
theorem dX6_records_52 : decode cX6_records 52 = .ok (.iload_n 1, 1) := by decide +kernel
theorem dX6_records_53 : decode cX6_records 53 = .ok (.sipush 1365, 3) := by decide +kernel
theorem dX6_records_56 : decode cX6_records 56 = .ok (.if_icmp .ge 30, 3) := by decide +kernel
theorem dX6_records_59 : decode cX6_records 59 = .ok (.aload_n 0, 1) := by decide +kernel
theorem dX6_records_60 : decode cX6_records 60 = .ok (.getfield 16, 3) := by decide +kernel
theorem dX6_records_63 : decode cX6_records 63 = .ok (.sipush 1365, 3) := by decide +kernel
theorem dX6_records_66 : decode cX6_records 66 = .ok (.aload_n 0, 1) := by decide +kernel
theorem dX6_records_67 : decode cX6_records 67 = .ok (.getfield 53, 3) := by decide +kernel
theorem dX6_records_70 : decode cX6_records 70 = .ok (.imul, 1) := by decide +kernel
theorem dX6_records_71 : decode cX6_records 71 = .ok (.iload_n 1, 1) := by decide +kernel
theorem dX6_records_72 : decode cX6_records 72 = .ok (.iadd, 1) := by decide +kernel
theorem dX6_records_73 : decode cX6_records 73 = .ok (.aload_n 0, 1) := by decide +kernel
theorem dX6_records_74 : decode cX6_records 74 = .ok (.getfield 7, 3) := by decide +kernel
theorem dX6_records_77 : decode cX6_records 77 = .ok (.iload_n 1, 1) := by decide +kernel
theorem dX6_records_78 : decode cX6_records 78 = .ok (.iaload, 1) := by decide +kernel
theorem dX6_records_79 : decode cX6_records 79 = .ok (.iastore, 1) := by decide +kernel
theorem dX6_records_80 : decode cX6_records 80 = .ok (.iinc 1 1, 3) := by decide +kernel
theorem dX6_records_83 : decode cX6_records 83 = .ok (.goto (-31), 3) := by decide +kernel
theorem dX6_records_86 : decode cX6_records 86 = .ok (.aload_n 0, 1) := by decide +kernel
theorem dX6_records_87 : decode cX6_records 87 = .ok (.dup, 1) := by decide +kernel
theorem dX6_records_88 : decode cX6_records 88 = .ok (.getfield 53, 3) := by decide +kernel
theorem dX6_records_91 : decode cX6_records 91 = .ok (.iconst 1, 1) := by decide +kernel
theorem dX6_records_92 : decode cX6_records 92 = .ok (.iadd, 1) := by decide +kernel
theorem dX6_records_93 : decode cX6_records 93 = .ok (.putfield 53, 3) := by decide +kernel
theorem dX6_records_96 : decode cX6_records 96 = .ok (.return_, 1) := by decide +kernel
theorem dX6_counts_0 : decode cX6_counts 0 = .ok (.aload_n 0, 1) := by decide +kernel
theorem dX6_counts_1 : decode cX6_counts 1 = .ok (.invokevirtual 56, 3) := by decide +kernel
theorem dX6_counts_4 : decode cX6_counts 4 = .ok (.aload_n 0, 1) := by decide +kernel
theorem dX6_counts_5 : decode cX6_counts 5 = .ok (.getfield 7, 3) := by decide +kernel
theorem dX6_counts_8 : decode cX6_counts 8 = .ok (.sipush 1364, 3) := by decide +kernel
theorem dX6_counts_11 : decode cX6_counts 11 = .ok (.dup2, 1) := by decide +kernel
theorem dX6_counts_12 : decode cX6_counts 12 = .ok (.iaload, 1) := by decide +kernel
theorem dX6_counts_13 : decode cX6_counts 13 = .ok (.iconst 1, 1) := by decide +kernel
theorem dX6_counts_14 : decode cX6_counts 14 = .ok (.iadd, 1) := by decide +kernel
theorem dX6_counts_15 : decode cX6_counts 15 = .ok (.iastore, 1) := by decide +kernel
theorem dX6_counts_16 : decode cX6_counts 16 = .ok (.return_, 1) := by decide +kernel
theorem dX6_putAside_0 : decode cX6_putAside 0 = .ok (.iconst 0, 1) := by decide +kernel
theorem dX6_putAside_1 : decode cX6_putAside 1 = .ok (.istore_n 1, 1) := by decide +kernel
theorem dX6_putAside_2 : decode cX6_putAside 2 = .ok (.iload_n 1, 1) := by decide +kernel
theorem dX6_putAside_3 : decode cX6_putAside 3 = .ok (.sipush 1365, 3) := by decide +kernel
theorem dX6_putAside_6 : decode cX6_putAside 6 = .ok (.if_icmp .ge 21, 3) := by decide +kernel
theorem dX6_putAside_9 : decode cX6_putAside 9 = .ok (.aload_n 0, 1) := by decide +kernel
theorem dX6_putAside_10 : decode cX6_putAside 10 = .ok (.getfield 13, 3) := by decide +kernel
theorem dX6_putAside_13 : decode cX6_putAside 13 = .ok (.iload_n 1, 1) := by decide +kernel
theorem dX6_putAside_14 : decode cX6_putAside 14 = .ok (.aload_n 0, 1) := by decide +kernel
theorem dX6_putAside_15 : decode cX6_putAside 15 = .ok (.getfield 7, 3) := by decide +kernel
theorem dX6_putAside_18 : decode cX6_putAside 18 = .ok (.iload_n 1, 1) := by decide +kernel
theorem dX6_putAside_19 : decode cX6_putAside 19 = .ok (.iaload, 1) := by decide +kernel
theorem dX6_putAside_20 : decode cX6_putAside 20 = .ok (.iastore, 1) := by decide +kernel
theorem dX6_putAside_21 : decode cX6_putAside 21 = .ok (.iinc 1 1, 3) := by decide +kernel
theorem dX6_putAside_24 : decode cX6_putAside 24 = .ok (.goto (-22), 3) := by decide +kernel
theorem dX6_putAside_27 : decode cX6_putAside 27 = .ok (.return_, 1) := by decide +kernel
theorem dX6_takeBack_0 : decode cX6_takeBack 0 = .ok (.iconst 0, 1) := by decide +kernel
theorem dX6_takeBack_1 : decode cX6_takeBack 1 = .ok (.istore_n 1, 1) := by decide +kernel
theorem dX6_takeBack_2 : decode cX6_takeBack 2 = .ok (.iload_n 1, 1) := by decide +kernel
theorem dX6_takeBack_3 : decode cX6_takeBack 3 = .ok (.sipush 1365, 3) := by decide +kernel
theorem dX6_takeBack_6 : decode cX6_takeBack 6 = .ok (.if_icmp .ge 21, 3) := by decide +kernel
theorem dX6_takeBack_9 : decode cX6_takeBack 9 = .ok (.aload_n 0, 1) := by decide +kernel
theorem dX6_takeBack_10 : decode cX6_takeBack 10 = .ok (.getfield 7, 3) := by decide +kernel
theorem dX6_takeBack_13 : decode cX6_takeBack 13 = .ok (.iload_n 1, 1) := by decide +kernel
theorem dX6_takeBack_14 : decode cX6_takeBack 14 = .ok (.aload_n 0, 1) := by decide +kernel
theorem dX6_takeBack_15 : decode cX6_takeBack 15 = .ok (.getfield 13, 3) := by decide +kernel
theorem dX6_takeBack_18 : decode cX6_takeBack 18 = .ok (.iload_n 1, 1) := by decide +kernel
theorem dX6_takeBack_19 : decode cX6_takeBack 19 = .ok (.iaload, 1) := by decide +kernel
theorem dX6_takeBack_20 : decode cX6_takeBack 20 = .ok (.iastore, 1) := by decide +kernel
theorem dX6_takeBack_21 : decode cX6_takeBack 21 = .ok (.iinc 1 1, 3) := by decide +kernel
theorem dX6_takeBack_24 : decode cX6_takeBack 24 = .ok (.goto (-22), 3) := by decide +kernel
theorem dX6_takeBack_27 : decode cX6_takeBack 27 = .ok (.return_, 1) := by decide +kernel
theorem dX6_isThere_0 : decode cX6_isThere 0 = .ok (.iconst 1, 1) := by decide +kernel
theorem dX6_isThere_1 : decode cX6_isThere 1 = .ok (.istore 5, 2) := by decide +kernel
theorem dX6_isThere_3 : decode cX6_isThere 3 = .ok (.iconst 0, 1) := by decide +kernel
theorem dX6_isThere_4 : decode cX6_isThere 4 = .ok (.istore 6, 2) := by decide +kernel
theorem dX6_isThere_6 : decode cX6_isThere 6 = .ok (.iload 6, 2) := by decide +kernel
theorem dX6_isThere_8 : decode cX6_isThere 8 = .ok (.iload_n 2, 1) := by decide +kernel
theorem dX6_isThere_9 : decode cX6_isThere 9 = .ok (.if_icmp .ge 45, 3) := by decide +kernel
theorem dX6_isThere_12 : decode cX6_isThere 12 = .ok (.iload 5, 2) := by decide +kernel
theorem dX6_isThere_14 : decode cX6_isThere 14 = .ok (.ifCond .eq 31, 3) := by decide +kernel
theorem dX6_isThere_17 : decode cX6_isThere 17 = .ok (.aload_n 0, 1) := by decide +kernel
theorem dX6_isThere_18 : decode cX6_isThere 18 = .ok (.iload_n 1, 1) := by decide +kernel
theorem dX6_isThere_19 : decode cX6_isThere 19 = .ok (.iload 6, 2) := by decide +kernel
theorem dX6_isThere_21 : decode cX6_isThere 21 = .ok (.iload_n 3, 1) := by decide +kernel
theorem dX6_isThere_22 : decode cX6_isThere 22 = .ok (.iload_n 2, 1) := by decide +kernel
theorem dX6_isThere_23 : decode cX6_isThere 23 = .ok (.iload 6, 2) := by decide +kernel
theorem dX6_isThere_25 : decode cX6_isThere 25 = .ok (.isub, 1) := by decide +kernel
theorem dX6_isThere_26 : decode cX6_isThere 26 = .ok (.ishr, 1) := by decide +kernel
theorem dX6_isThere_27 : decode cX6_isThere 27 = .ok (.iload 4, 2) := by decide +kernel
theorem dX6_isThere_29 : decode cX6_isThere 29 = .ok (.iload_n 2, 1) := by decide +kernel
theorem dX6_isThere_30 : decode cX6_isThere 30 = .ok (.iload 6, 2) := by decide +kernel
theorem dX6_isThere_32 : decode cX6_isThere 32 = .ok (.isub, 1) := by decide +kernel
theorem dX6_isThere_33 : decode cX6_isThere 33 = .ok (.ishr, 1) := by decide +kernel
theorem dX6_isThere_34 : decode cX6_isThere 34 = .ok (.invokevirtual 59, 3) := by decide +kernel
theorem dX6_isThere_37 : decode cX6_isThere 37 = .ok (.iconst 3, 1) := by decide +kernel
theorem dX6_isThere_38 : decode cX6_isThere 38 = .ok (.if_icmp .ne 7, 3) := by decide +kernel
theorem dX6_isThere_41 : decode cX6_isThere 41 = .ok (.iconst 1, 1) := by decide +kernel
theorem dX6_isThere_42 : decode cX6_isThere 42 = .ok (.goto 4, 3) := by decide +kernel
theorem dX6_isThere_45 : decode cX6_isThere 45 = .ok (.iconst 0, 1) := by decide +kernel
theorem dX6_isThere_46 : decode cX6_isThere 46 = .ok (.istore 5, 2) := by decide +kernel
theorem dX6_isThere_48 : decode cX6_isThere 48 = .ok (.iinc 6 1, 3) := by decide +kernel
theorem dX6_isThere_51 : decode cX6_isThere 51 = .ok (.goto (-45), 3) := by decide +kernel
theorem dX6_isThere_54 : decode cX6_isThere 54 = .ok (.iload 5, 2) := by decide +kernel
theorem dX6_isThere_56 : decode cX6_isThere 56 = .ok (.ireturn, 1) := by decide +kernel
theorem dX6_roomOf_0 : decode cX6_roomOf 0 = .ok (.iload_n 0, 1) := by decide +kernel
theorem dX6_roomOf_1 : decode cX6_roomOf 1 = .ok (.iconst 1, 1) := by decide +kernel
theorem dX6_roomOf_2 : decode cX6_roomOf 2 = .ok (.if_icmp .ne 9, 3) := by decide +kernel
theorem dX6_roomOf_5 : decode cX6_roomOf 5 = .ok (.iload_n 1, 1) := by decide +kernel
theorem dX6_roomOf_6 : decode cX6_roomOf 6 = .ok (.iload_n 1, 1) := by decide +kernel
theorem dX6_roomOf_7 : decode cX6_roomOf 7 = .ok (.imul, 1) := by decide +kernel
theorem dX6_roomOf_8 : decode cX6_roomOf 8 = .ok (.goto 24, 3) := by decide +kernel
theorem dX6_roomOf_11 : decode cX6_roomOf 11 = .ok (.iload_n 0, 1) := by decide +kernel
theorem dX6_roomOf_12 : decode cX6_roomOf 12 = .ok (.iconst 2, 1) := by decide +kernel
theorem dX6_roomOf_13 : decode cX6_roomOf 13 = .ok (.if_icmp .ne 9, 3) := by decide +kernel
theorem dX6_roomOf_16 : decode cX6_roomOf 16 = .ok (.iconst 2, 1) := by decide +kernel
theorem dX6_roomOf_17 : decode cX6_roomOf 17 = .ok (.iload_n 1, 1) := by decide +kernel
theorem dX6_roomOf_18 : decode cX6_roomOf 18 = .ok (.imul, 1) := by decide +kernel
theorem dX6_roomOf_19 : decode cX6_roomOf 19 = .ok (.goto 13, 3) := by decide +kernel
theorem dX6_roomOf_22 : decode cX6_roomOf 22 = .ok (.iload_n 0, 1) := by decide +kernel
theorem dX6_roomOf_23 : decode cX6_roomOf 23 = .ok (.iconst 3, 1) := by decide +kernel
theorem dX6_roomOf_24 : decode cX6_roomOf 24 = .ok (.if_icmp .ne 7, 3) := by decide +kernel
theorem dX6_roomOf_27 : decode cX6_roomOf 27 = .ok (.iconst 1, 1) := by decide +kernel
theorem dX6_roomOf_28 : decode cX6_roomOf 28 = .ok (.goto 4, 3) := by decide +kernel
theorem dX6_roomOf_31 : decode cX6_roomOf 31 = .ok (.iconst 0, 1) := by decide +kernel
theorem dX6_roomOf_32 : decode cX6_roomOf 32 = .ok (.ireturn, 1) := by decide +kernel
theorem dX6_roomFrom_0 : decode cX6_roomFrom 0 = .ok (.iconst 0, 1) := by decide +kernel
theorem dX6_roomFrom_1 : decode cX6_roomFrom 1 = .ok (.istore 5, 2) := by decide +kernel
theorem dX6_roomFrom_3 : decode cX6_roomFrom 3 = .ok (.iload_n 2, 1) := by decide +kernel
theorem dX6_roomFrom_4 : decode cX6_roomFrom 4 = .ok (.istore 6, 2) := by decide +kernel
theorem dX6_roomFrom_6 : decode cX6_roomFrom 6 = .ok (.iload 6, 2) := by decide +kernel
theorem dX6_roomFrom_8 : decode cX6_roomFrom 8 = .ok (.iconst 4, 1) := by decide +kernel
theorem dX6_roomFrom_9 : decode cX6_roomFrom 9 = .ok (.if_icmp .ge 103, 3) := by decide +kernel
theorem dX6_roomFrom_12 : decode cX6_roomFrom 12 = .ok (.iconst 1, 1) := by decide +kernel
theorem dX6_roomFrom_13 : decode cX6_roomFrom 13 = .ok (.iload 6, 2) := by decide +kernel
theorem dX6_roomFrom_15 : decode cX6_roomFrom 15 = .ok (.iload_n 2, 1) := by decide +kernel
theorem dX6_roomFrom_16 : decode cX6_roomFrom 16 = .ok (.isub, 1) := by decide +kernel
theorem dX6_roomFrom_17 : decode cX6_roomFrom 17 = .ok (.ishl, 1) := by decide +kernel
theorem dX6_roomFrom_18 : decode cX6_roomFrom 18 = .ok (.istore 7, 2) := by decide +kernel
theorem dX6_roomFrom_20 : decode cX6_roomFrom 20 = .ok (.iconst 0, 1) := by decide +kernel
theorem dX6_roomFrom_21 : decode cX6_roomFrom 21 = .ok (.istore 8, 2) := by decide +kernel
theorem dX6_roomFrom_23 : decode cX6_roomFrom 23 = .ok (.iload 8, 2) := by decide +kernel
theorem dX6_roomFrom_25 : decode cX6_roomFrom 25 = .ok (.iload 7, 2) := by decide +kernel
theorem dX6_roomFrom_27 : decode cX6_roomFrom 27 = .ok (.iload 7, 2) := by decide +kernel
theorem dX6_roomFrom_29 : decode cX6_roomFrom 29 = .ok (.imul, 1) := by decide +kernel
theorem dX6_roomFrom_30 : decode cX6_roomFrom 30 = .ok (.if_icmp .ge 76, 3) := by decide +kernel
theorem dX6_roomFrom_33 : decode cX6_roomFrom 33 = .ok (.iload_n 3, 1) := by decide +kernel
theorem dX6_roomFrom_34 : decode cX6_roomFrom 34 = .ok (.iload 7, 2) := by decide +kernel
theorem dX6_roomFrom_36 : decode cX6_roomFrom 36 = .ok (.imul, 1) := by decide +kernel
theorem dX6_roomFrom_37 : decode cX6_roomFrom 37 = .ok (.iload 8, 2) := by decide +kernel
theorem dX6_roomFrom_39 : decode cX6_roomFrom 39 = .ok (.iload 7, 2) := by decide +kernel
theorem dX6_roomFrom_41 : decode cX6_roomFrom 41 = .ok (.idiv, 1) := by decide +kernel
theorem dX6_roomFrom_42 : decode cX6_roomFrom 42 = .ok (.iadd, 1) := by decide +kernel
theorem dX6_roomFrom_43 : decode cX6_roomFrom 43 = .ok (.istore 9, 2) := by decide +kernel
theorem dX6_roomFrom_45 : decode cX6_roomFrom 45 = .ok (.iload 4, 2) := by decide +kernel
theorem dX6_roomFrom_47 : decode cX6_roomFrom 47 = .ok (.iload 7, 2) := by decide +kernel
theorem dX6_roomFrom_49 : decode cX6_roomFrom 49 = .ok (.imul, 1) := by decide +kernel
theorem dX6_roomFrom_50 : decode cX6_roomFrom 50 = .ok (.iload 8, 2) := by decide +kernel
theorem dX6_roomFrom_52 : decode cX6_roomFrom 52 = .ok (.iload 7, 2) := by decide +kernel
theorem dX6_roomFrom_54 : decode cX6_roomFrom 54 = .ok (.irem, 1) := by decide +kernel
theorem dX6_roomFrom_55 : decode cX6_roomFrom 55 = .ok (.iadd, 1) := by decide +kernel
theorem dX6_roomFrom_56 : decode cX6_roomFrom 56 = .ok (.istore 10, 2) := by decide +kernel
theorem dX6_roomFrom_58 : decode cX6_roomFrom 58 = .ok (.iload 5, 2) := by decide +kernel
theorem dX6_roomFrom_60 : decode cX6_roomFrom 60 = .ok (.aload_n 0, 1) := by decide +kernel
theorem dX6_roomFrom_61 : decode cX6_roomFrom 61 = .ok (.iload_n 1, 1) := by decide +kernel
theorem dX6_roomFrom_62 : decode cX6_roomFrom 62 = .ok (.iload 6, 2) := by decide +kernel
theorem dX6_roomFrom_64 : decode cX6_roomFrom 64 = .ok (.iload 9, 2) := by decide +kernel
theorem dX6_roomFrom_66 : decode cX6_roomFrom 66 = .ok (.iload 10, 2) := by decide +kernel
theorem dX6_roomFrom_68 : decode cX6_roomFrom 68 = .ok (.invokevirtual 63, 3) := by decide +kernel
theorem dX6_roomFrom_71 : decode cX6_roomFrom 71 = .ok (.ifCond .eq 25, 3) := by decide +kernel
theorem dX6_roomFrom_74 : decode cX6_roomFrom 74 = .ok (.aload_n 0, 1) := by decide +kernel
theorem dX6_roomFrom_75 : decode cX6_roomFrom 75 = .ok (.iload_n 1, 1) := by decide +kernel
theorem dX6_roomFrom_76 : decode cX6_roomFrom 76 = .ok (.iload 6, 2) := by decide +kernel
theorem dX6_roomFrom_78 : decode cX6_roomFrom 78 = .ok (.iload 9, 2) := by decide +kernel
theorem dX6_roomFrom_80 : decode cX6_roomFrom 80 = .ok (.iload 10, 2) := by decide +kernel
theorem dX6_roomFrom_82 : decode cX6_roomFrom 82 = .ok (.invokevirtual 59, 3) := by decide +kernel
theorem dX6_roomFrom_85 : decode cX6_roomFrom 85 = .ok (.iload 6, 2) := by decide +kernel
theorem dX6_roomFrom_87 : decode cX6_roomFrom 87 = .ok (.invokestatic 67, 3) := by decide +kernel
theorem dX6_roomFrom_90 : decode cX6_roomFrom 90 = .ok (.invokestatic 71, 3) := by decide +kernel
theorem dX6_roomFrom_93 : decode cX6_roomFrom 93 = .ok (.goto 4, 3) := by decide +kernel
theorem dX6_roomFrom_96 : decode cX6_roomFrom 96 = .ok (.iconst 0, 1) := by decide +kernel
theorem dX6_roomFrom_97 : decode cX6_roomFrom 97 = .ok (.iadd, 1) := by decide +kernel
theorem dX6_roomFrom_98 : decode cX6_roomFrom 98 = .ok (.istore 5, 2) := by decide +kernel
theorem dX6_roomFrom_100 : decode cX6_roomFrom 100 = .ok (.iinc 8 1, 3) := by decide +kernel
theorem dX6_roomFrom_103 : decode cX6_roomFrom 103 = .ok (.goto (-80), 3) := by decide +kernel
theorem dX6_roomFrom_106 : decode cX6_roomFrom 106 = .ok (.iinc 6 1, 3) := by decide +kernel
theorem dX6_roomFrom_109 : decode cX6_roomFrom 109 = .ok (.goto (-103), 3) := by decide +kernel
theorem dX6_roomFrom_112 : decode cX6_roomFrom 112 = .ok (.iload 5, 2) := by decide +kernel
theorem dX6_roomFrom_114 : decode cX6_roomFrom 114 = .ok (.ireturn, 1) := by decide +kernel
theorem dX6_room_0 : decode cX6_room 0 = .ok (.aload_n 0, 1) := by decide +kernel
theorem dX6_room_1 : decode cX6_room 1 = .ok (.iload_n 1, 1) := by decide +kernel
theorem dX6_room_2 : decode cX6_room 2 = .ok (.iconst 0, 1) := by decide +kernel
theorem dX6_room_3 : decode cX6_room 3 = .ok (.iconst 0, 1) := by decide +kernel
theorem dX6_room_4 : decode cX6_room 4 = .ok (.iconst 0, 1) := by decide +kernel
theorem dX6_room_5 : decode cX6_room 5 = .ok (.invokevirtual 75, 3) := by decide +kernel
theorem dX6_room_8 : decode cX6_room 8 = .ok (.ireturn, 1) := by decide +kernel
theorem dX6_depthAt_0 : decode cX6_depthAt 0 = .ok (.iconst 0, 1) := by decide +kernel
theorem dX6_depthAt_1 : decode cX6_depthAt 1 = .ok (.istore 4, 2) := by decide +kernel
theorem dX6_depthAt_3 : decode cX6_depthAt 3 = .ok (.aload_n 0, 1) := by decide +kernel
theorem dX6_depthAt_4 : decode cX6_depthAt 4 = .ok (.iload_n 1, 1) := by decide +kernel
theorem dX6_depthAt_5 : decode cX6_depthAt 5 = .ok (.iload 4, 2) := by decide +kernel
theorem dX6_depthAt_7 : decode cX6_depthAt 7 = .ok (.iload_n 2, 1) := by decide +kernel
theorem dX6_depthAt_8 : decode cX6_depthAt 8 = .ok (.iload 4, 2) := by decide +kernel
theorem dX6_depthAt_10 : decode cX6_depthAt 10 = .ok (.invokestatic 67, 3) := by decide +kernel
theorem dX6_depthAt_13 : decode cX6_depthAt 13 = .ok (.idiv, 1) := by decide +kernel
theorem dX6_depthAt_14 : decode cX6_depthAt 14 = .ok (.iload_n 3, 1) := by decide +kernel
theorem dX6_depthAt_15 : decode cX6_depthAt 15 = .ok (.iload 4, 2) := by decide +kernel
theorem dX6_depthAt_17 : decode cX6_depthAt 17 = .ok (.invokestatic 67, 3) := by decide +kernel
theorem dX6_depthAt_20 : decode cX6_depthAt 20 = .ok (.idiv, 1) := by decide +kernel
theorem dX6_depthAt_21 : decode cX6_depthAt 21 = .ok (.invokevirtual 59, 3) := by decide +kernel
theorem dX6_depthAt_24 : decode cX6_depthAt 24 = .ok (.iconst 3, 1) := by decide +kernel
theorem dX6_depthAt_25 : decode cX6_depthAt 25 = .ok (.if_icmp .ne 9, 3) := by decide +kernel
theorem dX6_depthAt_28 : decode cX6_depthAt 28 = .ok (.iinc 4 1, 3) := by decide +kernel
theorem dX6_depthAt_31 : decode cX6_depthAt 31 = .ok (.goto (-28), 3) := by decide +kernel
theorem dX6_depthAt_34 : decode cX6_depthAt 34 = .ok (.iload 4, 2) := by decide +kernel
theorem dX6_depthAt_36 : decode cX6_depthAt 36 = .ok (.ireturn, 1) := by decide +kernel
theorem dX6_allRoom_0 : decode cX6_allRoom 0 = .ok (.iconst 0, 1) := by decide +kernel
theorem dX6_allRoom_1 : decode cX6_allRoom 1 = .ok (.istore_n 1, 1) := by decide +kernel
theorem dX6_allRoom_2 : decode cX6_allRoom 2 = .ok (.iconst 0, 1) := by decide +kernel
theorem dX6_allRoom_3 : decode cX6_allRoom 3 = .ok (.istore_n 2, 1) := by decide +kernel
theorem dX6_allRoom_4 : decode cX6_allRoom 4 = .ok (.iload_n 2, 1) := by decide +kernel
theorem dX6_allRoom_5 : decode cX6_allRoom 5 = .ok (.iconst 4, 1) := by decide +kernel
theorem dX6_allRoom_6 : decode cX6_allRoom 6 = .ok (.if_icmp .ge 17, 3) := by decide +kernel
theorem dX6_allRoom_9 : decode cX6_allRoom 9 = .ok (.iload_n 1, 1) := by decide +kernel
theorem dX6_allRoom_10 : decode cX6_allRoom 10 = .ok (.aload_n 0, 1) := by decide +kernel
theorem dX6_allRoom_11 : decode cX6_allRoom 11 = .ok (.iload_n 2, 1) := by decide +kernel
theorem dX6_allRoom_12 : decode cX6_allRoom 12 = .ok (.invokevirtual 78, 3) := by decide +kernel
theorem dX6_allRoom_15 : decode cX6_allRoom 15 = .ok (.iadd, 1) := by decide +kernel
theorem dX6_allRoom_16 : decode cX6_allRoom 16 = .ok (.istore_n 1, 1) := by decide +kernel
theorem dX6_allRoom_17 : decode cX6_allRoom 17 = .ok (.iinc 2 1, 3) := by decide +kernel
theorem dX6_allRoom_20 : decode cX6_allRoom 20 = .ok (.goto (-16), 3) := by decide +kernel
theorem dX6_allRoom_23 : decode cX6_allRoom 23 = .ok (.iload_n 1, 1) := by decide +kernel
theorem dX6_allRoom_24 : decode cX6_allRoom 24 = .ok (.ireturn, 1) := by decide +kernel
theorem dX6_trace_0 : decode cX6_trace 0 = .ok (.iconst 0, 1) := by decide +kernel
theorem dX6_trace_1 : decode cX6_trace 1 = .ok (.istore_n 2, 1) := by decide +kernel
theorem dX6_trace_2 : decode cX6_trace 2 = .ok (.iconst 0, 1) := by decide +kernel
theorem dX6_trace_3 : decode cX6_trace 3 = .ok (.istore_n 3, 1) := by decide +kernel
theorem dX6_trace_4 : decode cX6_trace 4 = .ok (.iload_n 3, 1) := by decide +kernel
theorem dX6_trace_5 : decode cX6_trace 5 = .ok (.bipush 16, 2) := by decide +kernel
theorem dX6_trace_7 : decode cX6_trace 7 = .ok (.if_icmp .ge 19, 3) := by decide +kernel
theorem dX6_trace_10 : decode cX6_trace 10 = .ok (.iload_n 2, 1) := by decide +kernel
theorem dX6_trace_11 : decode cX6_trace 11 = .ok (.aload_n 0, 1) := by decide +kernel
theorem dX6_trace_12 : decode cX6_trace 12 = .ok (.iload_n 1, 1) := by decide +kernel
theorem dX6_trace_13 : decode cX6_trace 13 = .ok (.iload_n 3, 1) := by decide +kernel
theorem dX6_trace_14 : decode cX6_trace 14 = .ok (.iload_n 3, 1) := by decide +kernel
theorem dX6_trace_15 : decode cX6_trace 15 = .ok (.invokevirtual 81, 3) := by decide +kernel
theorem dX6_trace_18 : decode cX6_trace 18 = .ok (.iadd, 1) := by decide +kernel
theorem dX6_trace_19 : decode cX6_trace 19 = .ok (.istore_n 2, 1) := by decide +kernel
theorem dX6_trace_20 : decode cX6_trace 20 = .ok (.iinc 3 1, 3) := by decide +kernel
theorem dX6_trace_23 : decode cX6_trace 23 = .ok (.goto (-19), 3) := by decide +kernel
theorem dX6_trace_26 : decode cX6_trace 26 = .ok (.iload_n 2, 1) := by decide +kernel
theorem dX6_trace_27 : decode cX6_trace 27 = .ok (.ireturn, 1) := by decide +kernel
theorem dX6_firstRow_0 : decode cX6_firstRow 0 = .ok (.iconst 0, 1) := by decide +kernel
theorem dX6_firstRow_1 : decode cX6_firstRow 1 = .ok (.istore 5, 2) := by decide +kernel
theorem dX6_firstRow_3 : decode cX6_firstRow 3 = .ok (.iload 5, 2) := by decide +kernel
theorem dX6_firstRow_5 : decode cX6_firstRow 5 = .ok (.iload 4, 2) := by decide +kernel
theorem dX6_firstRow_7 : decode cX6_firstRow 7 = .ok (.iload 4, 2) := by decide +kernel
theorem dX6_firstRow_9 : decode cX6_firstRow 9 = .ok (.imul, 1) := by decide +kernel
theorem dX6_firstRow_10 : decode cX6_firstRow 10 = .ok (.if_icmp .ge 39, 3) := by decide +kernel
theorem dX6_firstRow_13 : decode cX6_firstRow 13 = .ok (.aload_n 0, 1) := by decide +kernel
theorem dX6_firstRow_14 : decode cX6_firstRow 14 = .ok (.iload_n 1, 1) := by decide +kernel
theorem dX6_firstRow_15 : decode cX6_firstRow 15 = .ok (.iload_n 2, 1) := by decide +kernel
theorem dX6_firstRow_16 : decode cX6_firstRow 16 = .ok (.iload 5, 2) := by decide +kernel
theorem dX6_firstRow_18 : decode cX6_firstRow 18 = .ok (.iload 4, 2) := by decide +kernel
theorem dX6_firstRow_20 : decode cX6_firstRow 20 = .ok (.idiv, 1) := by decide +kernel
theorem dX6_firstRow_21 : decode cX6_firstRow 21 = .ok (.iadd, 1) := by decide +kernel
theorem dX6_firstRow_22 : decode cX6_firstRow 22 = .ok (.iload_n 3, 1) := by decide +kernel
theorem dX6_firstRow_23 : decode cX6_firstRow 23 = .ok (.iload 5, 2) := by decide +kernel
theorem dX6_firstRow_25 : decode cX6_firstRow 25 = .ok (.iload 4, 2) := by decide +kernel
theorem dX6_firstRow_27 : decode cX6_firstRow 27 = .ok (.irem, 1) := by decide +kernel
theorem dX6_firstRow_28 : decode cX6_firstRow 28 = .ok (.iadd, 1) := by decide +kernel
theorem dX6_firstRow_29 : decode cX6_firstRow 29 = .ok (.invokevirtual 81, 3) := by decide +kernel
theorem dX6_firstRow_32 : decode cX6_firstRow 32 = .ok (.ifCond .eq 11, 3) := by decide +kernel
theorem dX6_firstRow_35 : decode cX6_firstRow 35 = .ok (.iload_n 2, 1) := by decide +kernel
theorem dX6_firstRow_36 : decode cX6_firstRow 36 = .ok (.iload 5, 2) := by decide +kernel
theorem dX6_firstRow_38 : decode cX6_firstRow 38 = .ok (.iload 4, 2) := by decide +kernel
theorem dX6_firstRow_40 : decode cX6_firstRow 40 = .ok (.idiv, 1) := by decide +kernel
theorem dX6_firstRow_41 : decode cX6_firstRow 41 = .ok (.iadd, 1) := by decide +kernel
theorem dX6_firstRow_42 : decode cX6_firstRow 42 = .ok (.ireturn, 1) := by decide +kernel
theorem dX6_firstRow_43 : decode cX6_firstRow 43 = .ok (.iinc 5 1, 3) := by decide +kernel
theorem dX6_firstRow_46 : decode cX6_firstRow 46 = .ok (.goto (-43), 3) := by decide +kernel
theorem dX6_firstRow_49 : decode cX6_firstRow 49 = .ok (.bipush (-6), 2) := by decide +kernel
theorem dX6_firstRow_51 : decode cX6_firstRow 51 = .ok (.ireturn, 1) := by decide +kernel
theorem dX6_firstColumn_0 : decode cX6_firstColumn 0 = .ok (.iconst 0, 1) := by decide +kernel
theorem dX6_firstColumn_1 : decode cX6_firstColumn 1 = .ok (.istore 5, 2) := by decide +kernel
theorem dX6_firstColumn_3 : decode cX6_firstColumn 3 = .ok (.iload 5, 2) := by decide +kernel
theorem dX6_firstColumn_5 : decode cX6_firstColumn 5 = .ok (.iload 4, 2) := by decide +kernel
theorem dX6_firstColumn_7 : decode cX6_firstColumn 7 = .ok (.iload 4, 2) := by decide +kernel
theorem dX6_firstColumn_9 : decode cX6_firstColumn 9 = .ok (.imul, 1) := by decide +kernel
theorem dX6_firstColumn_10 : decode cX6_firstColumn 10 = .ok (.if_icmp .ge 39, 3) := by decide +kernel
theorem dX6_firstColumn_13 : decode cX6_firstColumn 13 = .ok (.aload_n 0, 1) := by decide +kernel
theorem dX6_firstColumn_14 : decode cX6_firstColumn 14 = .ok (.iload_n 1, 1) := by decide +kernel
theorem dX6_firstColumn_15 : decode cX6_firstColumn 15 = .ok (.iload_n 2, 1) := by decide +kernel
theorem dX6_firstColumn_16 : decode cX6_firstColumn 16 = .ok (.iload 5, 2) := by decide +kernel
theorem dX6_firstColumn_18 : decode cX6_firstColumn 18 = .ok (.iload 4, 2) := by decide +kernel
theorem dX6_firstColumn_20 : decode cX6_firstColumn 20 = .ok (.irem, 1) := by decide +kernel
theorem dX6_firstColumn_21 : decode cX6_firstColumn 21 = .ok (.iadd, 1) := by decide +kernel
theorem dX6_firstColumn_22 : decode cX6_firstColumn 22 = .ok (.iload_n 3, 1) := by decide +kernel
theorem dX6_firstColumn_23 : decode cX6_firstColumn 23 = .ok (.iload 5, 2) := by decide +kernel
theorem dX6_firstColumn_25 : decode cX6_firstColumn 25 = .ok (.iload 4, 2) := by decide +kernel
theorem dX6_firstColumn_27 : decode cX6_firstColumn 27 = .ok (.idiv, 1) := by decide +kernel
theorem dX6_firstColumn_28 : decode cX6_firstColumn 28 = .ok (.iadd, 1) := by decide +kernel
theorem dX6_firstColumn_29 : decode cX6_firstColumn 29 = .ok (.invokevirtual 81, 3) := by decide +kernel
theorem dX6_firstColumn_32 : decode cX6_firstColumn 32 = .ok (.ifCond .eq 11, 3) := by decide +kernel
theorem dX6_firstColumn_35 : decode cX6_firstColumn 35 = .ok (.iload_n 3, 1) := by decide +kernel
theorem dX6_firstColumn_36 : decode cX6_firstColumn 36 = .ok (.iload 5, 2) := by decide +kernel
theorem dX6_firstColumn_38 : decode cX6_firstColumn 38 = .ok (.iload 4, 2) := by decide +kernel
theorem dX6_firstColumn_40 : decode cX6_firstColumn 40 = .ok (.idiv, 1) := by decide +kernel
theorem dX6_firstColumn_41 : decode cX6_firstColumn 41 = .ok (.iadd, 1) := by decide +kernel
theorem dX6_firstColumn_42 : decode cX6_firstColumn 42 = .ok (.ireturn, 1) := by decide +kernel
theorem dX6_firstColumn_43 : decode cX6_firstColumn 43 = .ok (.iinc 5 1, 3) := by decide +kernel
theorem dX6_firstColumn_46 : decode cX6_firstColumn 46 = .ok (.goto (-43), 3) := by decide +kernel
theorem dX6_firstColumn_49 : decode cX6_firstColumn 49 = .ok (.bipush (-6), 2) := by decide +kernel
theorem dX6_firstColumn_51 : decode cX6_firstColumn 51 = .ok (.ireturn, 1) := by decide +kernel
theorem dX6_oneness_0 : decode cX6_oneness 0 = .ok (.aload_n 0, 1) := by decide +kernel
theorem dX6_oneness_1 : decode cX6_oneness 1 = .ok (.iload_n 1, 1) := by decide +kernel
theorem dX6_oneness_2 : decode cX6_oneness 2 = .ok (.iload_n 2, 1) := by decide +kernel
theorem dX6_oneness_3 : decode cX6_oneness 3 = .ok (.iload_n 3, 1) := by decide +kernel
theorem dX6_oneness_4 : decode cX6_oneness 4 = .ok (.iload 4, 2) := by decide +kernel
theorem dX6_oneness_6 : decode cX6_oneness 6 = .ok (.invokevirtual 84, 3) := by decide +kernel
theorem dX6_oneness_9 : decode cX6_oneness 9 = .ok (.istore 5, 2) := by decide +kernel
theorem dX6_oneness_11 : decode cX6_oneness 11 = .ok (.aload_n 0, 1) := by decide +kernel
theorem dX6_oneness_12 : decode cX6_oneness 12 = .ok (.iload_n 1, 1) := by decide +kernel
theorem dX6_oneness_13 : decode cX6_oneness 13 = .ok (.iload_n 2, 1) := by decide +kernel
theorem dX6_oneness_14 : decode cX6_oneness 14 = .ok (.iload_n 3, 1) := by decide +kernel
theorem dX6_oneness_15 : decode cX6_oneness 15 = .ok (.iload 4, 2) := by decide +kernel
theorem dX6_oneness_17 : decode cX6_oneness 17 = .ok (.invokevirtual 87, 3) := by decide +kernel
theorem dX6_oneness_20 : decode cX6_oneness 20 = .ok (.istore 6, 2) := by decide +kernel
theorem dX6_oneness_22 : decode cX6_oneness 22 = .ok (.iload 5, 2) := by decide +kernel
theorem dX6_oneness_24 : decode cX6_oneness 24 = .ok (.bipush (-6), 2) := by decide +kernel
theorem dX6_oneness_26 : decode cX6_oneness 26 = .ok (.if_icmp .ne 5, 3) := by decide +kernel
theorem dX6_oneness_29 : decode cX6_oneness 29 = .ok (.iconst 2, 1) := by decide +kernel
theorem dX6_oneness_30 : decode cX6_oneness 30 = .ok (.ireturn, 1) := by decide +kernel
theorem dX6_oneness_31 : decode cX6_oneness 31 = .ok (.aload_n 0, 1) := by decide +kernel
theorem dX6_oneness_32 : decode cX6_oneness 32 = .ok (.iload_n 1, 1) := by decide +kernel
theorem dX6_oneness_33 : decode cX6_oneness 33 = .ok (.iload 5, 2) := by decide +kernel
theorem dX6_oneness_35 : decode cX6_oneness 35 = .ok (.iload 6, 2) := by decide +kernel
theorem dX6_oneness_37 : decode cX6_oneness 37 = .ok (.invokevirtual 81, 3) := by decide +kernel
theorem dX6_oneness_40 : decode cX6_oneness 40 = .ok (.i2l, 1) := by decide +kernel
theorem dX6_oneness_41 : decode cX6_oneness 41 = .ok (.lstore 7, 2) := by decide +kernel
theorem dX6_oneness_43 : decode cX6_oneness 43 = .ok (.iconst 0, 1) := by decide +kernel
theorem dX6_oneness_44 : decode cX6_oneness 44 = .ok (.istore 9, 2) := by decide +kernel
theorem dX6_oneness_46 : decode cX6_oneness 46 = .ok (.iload 9, 2) := by decide +kernel
theorem dX6_oneness_48 : decode cX6_oneness 48 = .ok (.iload 4, 2) := by decide +kernel
theorem dX6_oneness_50 : decode cX6_oneness 50 = .ok (.iload 4, 2) := by decide +kernel
theorem dX6_oneness_52 : decode cX6_oneness 52 = .ok (.imul, 1) := by decide +kernel
theorem dX6_oneness_53 : decode cX6_oneness 53 = .ok (.if_icmp .ge 67, 3) := by decide +kernel
theorem dX6_oneness_56 : decode cX6_oneness 56 = .ok (.iload_n 2, 1) := by decide +kernel
theorem dX6_oneness_57 : decode cX6_oneness 57 = .ok (.iload 9, 2) := by decide +kernel
theorem dX6_oneness_59 : decode cX6_oneness 59 = .ok (.iload 4, 2) := by decide +kernel
theorem dX6_oneness_61 : decode cX6_oneness 61 = .ok (.idiv, 1) := by decide +kernel
theorem dX6_oneness_62 : decode cX6_oneness 62 = .ok (.iadd, 1) := by decide +kernel
theorem dX6_oneness_63 : decode cX6_oneness 63 = .ok (.istore 10, 2) := by decide +kernel
theorem dX6_oneness_65 : decode cX6_oneness 65 = .ok (.iload_n 3, 1) := by decide +kernel
theorem dX6_oneness_66 : decode cX6_oneness 66 = .ok (.iload 9, 2) := by decide +kernel
theorem dX6_oneness_68 : decode cX6_oneness 68 = .ok (.iload 4, 2) := by decide +kernel
theorem dX6_oneness_70 : decode cX6_oneness 70 = .ok (.irem, 1) := by decide +kernel
theorem dX6_oneness_71 : decode cX6_oneness 71 = .ok (.iadd, 1) := by decide +kernel
theorem dX6_oneness_72 : decode cX6_oneness 72 = .ok (.istore 11, 2) := by decide +kernel
theorem dX6_oneness_74 : decode cX6_oneness 74 = .ok (.aload_n 0, 1) := by decide +kernel
theorem dX6_oneness_75 : decode cX6_oneness 75 = .ok (.iload_n 1, 1) := by decide +kernel
theorem dX6_oneness_76 : decode cX6_oneness 76 = .ok (.iload 10, 2) := by decide +kernel
theorem dX6_oneness_78 : decode cX6_oneness 78 = .ok (.iload 11, 2) := by decide +kernel
theorem dX6_oneness_80 : decode cX6_oneness 80 = .ok (.invokevirtual 81, 3) := by decide +kernel
theorem dX6_oneness_83 : decode cX6_oneness 83 = .ok (.i2l, 1) := by decide +kernel
theorem dX6_oneness_84 : decode cX6_oneness 84 = .ok (.lload 7, 2) := by decide +kernel
theorem dX6_oneness_86 : decode cX6_oneness 86 = .ok (.lmul, 1) := by decide +kernel
theorem dX6_oneness_87 : decode cX6_oneness 87 = .ok (.aload_n 0, 1) := by decide +kernel
theorem dX6_oneness_88 : decode cX6_oneness 88 = .ok (.iload_n 1, 1) := by decide +kernel
theorem dX6_oneness_89 : decode cX6_oneness 89 = .ok (.iload 10, 2) := by decide +kernel
theorem dX6_oneness_91 : decode cX6_oneness 91 = .ok (.iload 6, 2) := by decide +kernel
theorem dX6_oneness_93 : decode cX6_oneness 93 = .ok (.invokevirtual 81, 3) := by decide +kernel
theorem dX6_oneness_96 : decode cX6_oneness 96 = .ok (.i2l, 1) := by decide +kernel
theorem dX6_oneness_97 : decode cX6_oneness 97 = .ok (.aload_n 0, 1) := by decide +kernel
theorem dX6_oneness_98 : decode cX6_oneness 98 = .ok (.iload_n 1, 1) := by decide +kernel
theorem dX6_oneness_99 : decode cX6_oneness 99 = .ok (.iload 5, 2) := by decide +kernel
theorem dX6_oneness_101 : decode cX6_oneness 101 = .ok (.iload 11, 2) := by decide +kernel
theorem dX6_oneness_103 : decode cX6_oneness 103 = .ok (.invokevirtual 81, 3) := by decide +kernel
theorem dX6_oneness_106 : decode cX6_oneness 106 = .ok (.i2l, 1) := by decide +kernel
theorem dX6_oneness_107 : decode cX6_oneness 107 = .ok (.lmul, 1) := by decide +kernel
theorem dX6_oneness_108 : decode cX6_oneness 108 = .ok (.lcmp, 1) := by decide +kernel
theorem dX6_oneness_109 : decode cX6_oneness 109 = .ok (.ifCond .eq 5, 3) := by decide +kernel
theorem dX6_oneness_112 : decode cX6_oneness 112 = .ok (.iconst 0, 1) := by decide +kernel
theorem dX6_oneness_113 : decode cX6_oneness 113 = .ok (.ireturn, 1) := by decide +kernel
theorem dX6_oneness_114 : decode cX6_oneness 114 = .ok (.iinc 9 1, 3) := by decide +kernel
theorem dX6_oneness_117 : decode cX6_oneness 117 = .ok (.goto (-71), 3) := by decide +kernel
theorem dX6_oneness_120 : decode cX6_oneness 120 = .ok (.iconst 1, 1) := by decide +kernel
theorem dX6_oneness_121 : decode cX6_oneness 121 = .ok (.ireturn, 1) := by decide +kernel
theorem dX6_areEmpty_0 : decode cX6_areEmpty 0 = .ok (.iconst 1, 1) := by decide +kernel
theorem dX6_areEmpty_1 : decode cX6_areEmpty 1 = .ok (.istore 5, 2) := by decide +kernel
theorem dX6_areEmpty_3 : decode cX6_areEmpty 3 = .ok (.iconst 0, 1) := by decide +kernel
theorem dX6_areEmpty_4 : decode cX6_areEmpty 4 = .ok (.istore 6, 2) := by decide +kernel
theorem dX6_areEmpty_6 : decode cX6_areEmpty 6 = .ok (.iload 6, 2) := by decide +kernel
theorem dX6_areEmpty_8 : decode cX6_areEmpty 8 = .ok (.iconst 4, 1) := by decide +kernel
theorem dX6_areEmpty_9 : decode cX6_areEmpty 9 = .ok (.if_icmp .ge 49, 3) := by decide +kernel
theorem dX6_areEmpty_12 : decode cX6_areEmpty 12 = .ok (.iload 5, 2) := by decide +kernel
theorem dX6_areEmpty_14 : decode cX6_areEmpty 14 = .ok (.ifCond .eq 35, 3) := by decide +kernel
theorem dX6_areEmpty_17 : decode cX6_areEmpty 17 = .ok (.aload_n 0, 1) := by decide +kernel
theorem dX6_areEmpty_18 : decode cX6_areEmpty 18 = .ok (.iload_n 1, 1) := by decide +kernel
theorem dX6_areEmpty_19 : decode cX6_areEmpty 19 = .ok (.iload_n 2, 1) := by decide +kernel
theorem dX6_areEmpty_20 : decode cX6_areEmpty 20 = .ok (.iconst 1, 1) := by decide +kernel
theorem dX6_areEmpty_21 : decode cX6_areEmpty 21 = .ok (.iadd, 1) := by decide +kernel
theorem dX6_areEmpty_22 : decode cX6_areEmpty 22 = .ok (.iconst 2, 1) := by decide +kernel
theorem dX6_areEmpty_23 : decode cX6_areEmpty 23 = .ok (.iload_n 3, 1) := by decide +kernel
theorem dX6_areEmpty_24 : decode cX6_areEmpty 24 = .ok (.imul, 1) := by decide +kernel
theorem dX6_areEmpty_25 : decode cX6_areEmpty 25 = .ok (.iload 6, 2) := by decide +kernel
theorem dX6_areEmpty_27 : decode cX6_areEmpty 27 = .ok (.iconst 2, 1) := by decide +kernel
theorem dX6_areEmpty_28 : decode cX6_areEmpty 28 = .ok (.idiv, 1) := by decide +kernel
theorem dX6_areEmpty_29 : decode cX6_areEmpty 29 = .ok (.iadd, 1) := by decide +kernel
theorem dX6_areEmpty_30 : decode cX6_areEmpty 30 = .ok (.iconst 2, 1) := by decide +kernel
theorem dX6_areEmpty_31 : decode cX6_areEmpty 31 = .ok (.iload 4, 2) := by decide +kernel
theorem dX6_areEmpty_33 : decode cX6_areEmpty 33 = .ok (.imul, 1) := by decide +kernel
theorem dX6_areEmpty_34 : decode cX6_areEmpty 34 = .ok (.iload 6, 2) := by decide +kernel
theorem dX6_areEmpty_36 : decode cX6_areEmpty 36 = .ok (.iconst 2, 1) := by decide +kernel
theorem dX6_areEmpty_37 : decode cX6_areEmpty 37 = .ok (.irem, 1) := by decide +kernel
theorem dX6_areEmpty_38 : decode cX6_areEmpty 38 = .ok (.iadd, 1) := by decide +kernel
theorem dX6_areEmpty_39 : decode cX6_areEmpty 39 = .ok (.invokevirtual 59, 3) := by decide +kernel
theorem dX6_areEmpty_42 : decode cX6_areEmpty 42 = .ok (.ifCond .ne 7, 3) := by decide +kernel
theorem dX6_areEmpty_45 : decode cX6_areEmpty 45 = .ok (.iconst 1, 1) := by decide +kernel
theorem dX6_areEmpty_46 : decode cX6_areEmpty 46 = .ok (.goto 4, 3) := by decide +kernel
theorem dX6_areEmpty_49 : decode cX6_areEmpty 49 = .ok (.iconst 0, 1) := by decide +kernel
theorem dX6_areEmpty_50 : decode cX6_areEmpty 50 = .ok (.istore 5, 2) := by decide +kernel
theorem dX6_areEmpty_52 : decode cX6_areEmpty 52 = .ok (.iinc 6 1, 3) := by decide +kernel
theorem dX6_areEmpty_55 : decode cX6_areEmpty 55 = .ok (.goto (-49), 3) := by decide +kernel
theorem dX6_areEmpty_58 : decode cX6_areEmpty 58 = .ok (.iload 5, 2) := by decide +kernel
theorem dX6_areEmpty_60 : decode cX6_areEmpty 60 = .ok (.ireturn, 1) := by decide +kernel
theorem dX6_shrinksBlock_0 : decode cX6_shrinksBlock 0 = .ok (.iload_n 2, 1) := by decide +kernel
theorem dX6_shrinksBlock_1 : decode cX6_shrinksBlock 1 = .ok (.invokestatic 67, 3) := by decide +kernel
theorem dX6_shrinksBlock_4 : decode cX6_shrinksBlock 4 = .ok (.istore 5, 2) := by decide +kernel
theorem dX6_shrinksBlock_6 : decode cX6_shrinksBlock 6 = .ok (.aload_n 0, 1) := by decide +kernel
theorem dX6_shrinksBlock_7 : decode cX6_shrinksBlock 7 = .ok (.iload_n 1, 1) := by decide +kernel
theorem dX6_shrinksBlock_8 : decode cX6_shrinksBlock 8 = .ok (.iload_n 2, 1) := by decide +kernel
theorem dX6_shrinksBlock_9 : decode cX6_shrinksBlock 9 = .ok (.iload_n 3, 1) := by decide +kernel
theorem dX6_shrinksBlock_10 : decode cX6_shrinksBlock 10 = .ok (.iload 4, 2) := by decide +kernel
theorem dX6_shrinksBlock_12 : decode cX6_shrinksBlock 12 = .ok (.invokevirtual 59, 3) := by decide +kernel
theorem dX6_shrinksBlock_15 : decode cX6_shrinksBlock 15 = .ok (.istore 6, 2) := by decide +kernel
theorem dX6_shrinksBlock_17 : decode cX6_shrinksBlock 17 = .ok (.aload_n 0, 1) := by decide +kernel
theorem dX6_shrinksBlock_18 : decode cX6_shrinksBlock 18 = .ok (.iload_n 1, 1) := by decide +kernel
theorem dX6_shrinksBlock_19 : decode cX6_shrinksBlock 19 = .ok (.iload_n 3, 1) := by decide +kernel
theorem dX6_shrinksBlock_20 : decode cX6_shrinksBlock 20 = .ok (.iload 5, 2) := by decide +kernel
theorem dX6_shrinksBlock_22 : decode cX6_shrinksBlock 22 = .ok (.imul, 1) := by decide +kernel
theorem dX6_shrinksBlock_23 : decode cX6_shrinksBlock 23 = .ok (.iload 4, 2) := by decide +kernel
theorem dX6_shrinksBlock_25 : decode cX6_shrinksBlock 25 = .ok (.iload 5, 2) := by decide +kernel
theorem dX6_shrinksBlock_27 : decode cX6_shrinksBlock 27 = .ok (.imul, 1) := by decide +kernel
theorem dX6_shrinksBlock_28 : decode cX6_shrinksBlock 28 = .ok (.iload 5, 2) := by decide +kernel
theorem dX6_shrinksBlock_30 : decode cX6_shrinksBlock 30 = .ok (.invokevirtual 90, 3) := by decide +kernel
theorem dX6_shrinksBlock_33 : decode cX6_shrinksBlock 33 = .ok (.istore 7, 2) := by decide +kernel
theorem dX6_shrinksBlock_35 : decode cX6_shrinksBlock 35 = .ok (.iload 6, 2) := by decide +kernel
theorem dX6_shrinksBlock_37 : decode cX6_shrinksBlock 37 = .ok (.iconst 3, 1) := by decide +kernel
theorem dX6_shrinksBlock_38 : decode cX6_shrinksBlock 38 = .ok (.if_icmp .ne 70, 3) := by decide +kernel
theorem dX6_shrinksBlock_41 : decode cX6_shrinksBlock 41 = .ok (.iload 7, 2) := by decide +kernel
theorem dX6_shrinksBlock_43 : decode cX6_shrinksBlock 43 = .ok (.iconst 1, 1) := by decide +kernel
theorem dX6_shrinksBlock_44 : decode cX6_shrinksBlock 44 = .ok (.if_icmp .ne 23, 3) := by decide +kernel
theorem dX6_shrinksBlock_47 : decode cX6_shrinksBlock 47 = .ok (.iconst 2, 1) := by decide +kernel
theorem dX6_shrinksBlock_48 : decode cX6_shrinksBlock 48 = .ok (.iload 5, 2) := by decide +kernel
theorem dX6_shrinksBlock_50 : decode cX6_shrinksBlock 50 = .ok (.imul, 1) := by decide +kernel
theorem dX6_shrinksBlock_51 : decode cX6_shrinksBlock 51 = .ok (.aload_n 0, 1) := by decide +kernel
theorem dX6_shrinksBlock_52 : decode cX6_shrinksBlock 52 = .ok (.iload_n 1, 1) := by decide +kernel
theorem dX6_shrinksBlock_53 : decode cX6_shrinksBlock 53 = .ok (.iload_n 2, 1) := by decide +kernel
theorem dX6_shrinksBlock_54 : decode cX6_shrinksBlock 54 = .ok (.iload_n 3, 1) := by decide +kernel
theorem dX6_shrinksBlock_55 : decode cX6_shrinksBlock 55 = .ok (.iload 4, 2) := by decide +kernel
theorem dX6_shrinksBlock_57 : decode cX6_shrinksBlock 57 = .ok (.invokevirtual 75, 3) := by decide +kernel
theorem dX6_shrinksBlock_60 : decode cX6_shrinksBlock 60 = .ok (.if_icmp .gt 7, 3) := by decide +kernel
theorem dX6_shrinksBlock_63 : decode cX6_shrinksBlock 63 = .ok (.iconst 1, 1) := by decide +kernel
theorem dX6_shrinksBlock_64 : decode cX6_shrinksBlock 64 = .ok (.goto 4, 3) := by decide +kernel
theorem dX6_shrinksBlock_67 : decode cX6_shrinksBlock 67 = .ok (.iconst 0, 1) := by decide +kernel
theorem dX6_shrinksBlock_68 : decode cX6_shrinksBlock 68 = .ok (.istore 8, 2) := by decide +kernel
theorem dX6_shrinksBlock_70 : decode cX6_shrinksBlock 70 = .ok (.aload_n 0, 1) := by decide +kernel
theorem dX6_shrinksBlock_71 : decode cX6_shrinksBlock 71 = .ok (.iload_n 1, 1) := by decide +kernel
theorem dX6_shrinksBlock_72 : decode cX6_shrinksBlock 72 = .ok (.iload_n 2, 1) := by decide +kernel
theorem dX6_shrinksBlock_73 : decode cX6_shrinksBlock 73 = .ok (.iload_n 3, 1) := by decide +kernel
theorem dX6_shrinksBlock_74 : decode cX6_shrinksBlock 74 = .ok (.iload 4, 2) := by decide +kernel
theorem dX6_shrinksBlock_76 : decode cX6_shrinksBlock 76 = .ok (.aload_n 0, 1) := by decide +kernel
theorem dX6_shrinksBlock_77 : decode cX6_shrinksBlock 77 = .ok (.iload_n 1, 1) := by decide +kernel
theorem dX6_shrinksBlock_78 : decode cX6_shrinksBlock 78 = .ok (.iload_n 2, 1) := by decide +kernel
theorem dX6_shrinksBlock_79 : decode cX6_shrinksBlock 79 = .ok (.iload_n 3, 1) := by decide +kernel
theorem dX6_shrinksBlock_80 : decode cX6_shrinksBlock 80 = .ok (.iload 4, 2) := by decide +kernel
theorem dX6_shrinksBlock_82 : decode cX6_shrinksBlock 82 = .ok (.invokevirtual 93, 3) := by decide +kernel
theorem dX6_shrinksBlock_85 : decode cX6_shrinksBlock 85 = .ok (.ifCond .eq 7, 3) := by decide +kernel
theorem dX6_shrinksBlock_88 : decode cX6_shrinksBlock 88 = .ok (.iconst 0, 1) := by decide +kernel
theorem dX6_shrinksBlock_89 : decode cX6_shrinksBlock 89 = .ok (.goto 13, 3) := by decide +kernel
theorem dX6_shrinksBlock_92 : decode cX6_shrinksBlock 92 = .ok (.iload 8, 2) := by decide +kernel
theorem dX6_shrinksBlock_94 : decode cX6_shrinksBlock 94 = .ok (.ifCond .eq 7, 3) := by decide +kernel
theorem dX6_shrinksBlock_97 : decode cX6_shrinksBlock 97 = .ok (.iconst 2, 1) := by decide +kernel
theorem dX6_shrinksBlock_98 : decode cX6_shrinksBlock 98 = .ok (.goto 4, 3) := by decide +kernel
theorem dX6_shrinksBlock_101 : decode cX6_shrinksBlock 101 = .ok (.iconst 3, 1) := by decide +kernel
theorem dX6_shrinksBlock_102 : decode cX6_shrinksBlock 102 = .ok (.invokevirtual 96, 3) := by decide +kernel
theorem dX6_shrinksBlock_105 : decode cX6_shrinksBlock 105 = .ok (.goto 39, 3) := by decide +kernel
theorem dX6_shrinksBlock_108 : decode cX6_shrinksBlock 108 = .ok (.iload 6, 2) := by decide +kernel
theorem dX6_shrinksBlock_110 : decode cX6_shrinksBlock 110 = .ok (.ifCond .eq 34, 3) := by decide +kernel
theorem dX6_shrinksBlock_113 : decode cX6_shrinksBlock 113 = .ok (.aload_n 0, 1) := by decide +kernel
theorem dX6_shrinksBlock_114 : decode cX6_shrinksBlock 114 = .ok (.iload_n 1, 1) := by decide +kernel
theorem dX6_shrinksBlock_115 : decode cX6_shrinksBlock 115 = .ok (.iload_n 2, 1) := by decide +kernel
theorem dX6_shrinksBlock_116 : decode cX6_shrinksBlock 116 = .ok (.iload_n 3, 1) := by decide +kernel
theorem dX6_shrinksBlock_117 : decode cX6_shrinksBlock 117 = .ok (.iload 4, 2) := by decide +kernel
theorem dX6_shrinksBlock_119 : decode cX6_shrinksBlock 119 = .ok (.iload 7, 2) := by decide +kernel
theorem dX6_shrinksBlock_121 : decode cX6_shrinksBlock 121 = .ok (.iconst 2, 1) := by decide +kernel
theorem dX6_shrinksBlock_122 : decode cX6_shrinksBlock 122 = .ok (.if_icmp .ne 7, 3) := by decide +kernel
theorem dX6_shrinksBlock_125 : decode cX6_shrinksBlock 125 = .ok (.iconst 0, 1) := by decide +kernel
theorem dX6_shrinksBlock_126 : decode cX6_shrinksBlock 126 = .ok (.goto 15, 3) := by decide +kernel
theorem dX6_shrinksBlock_129 : decode cX6_shrinksBlock 129 = .ok (.iload 7, 2) := by decide +kernel
theorem dX6_shrinksBlock_131 : decode cX6_shrinksBlock 131 = .ok (.iconst 1, 1) := by decide +kernel
theorem dX6_shrinksBlock_132 : decode cX6_shrinksBlock 132 = .ok (.if_icmp .ne 7, 3) := by decide +kernel
theorem dX6_shrinksBlock_135 : decode cX6_shrinksBlock 135 = .ok (.iconst 2, 1) := by decide +kernel
theorem dX6_shrinksBlock_136 : decode cX6_shrinksBlock 136 = .ok (.goto 5, 3) := by decide +kernel
theorem dX6_shrinksBlock_139 : decode cX6_shrinksBlock 139 = .ok (.iload 6, 2) := by decide +kernel
theorem dX6_shrinksBlock_141 : decode cX6_shrinksBlock 141 = .ok (.invokevirtual 96, 3) := by decide +kernel
theorem dX6_shrinksBlock_144 : decode cX6_shrinksBlock 144 = .ok (.return_, 1) := by decide +kernel
theorem dX6_shrinks_0 : decode cX6_shrinks 0 = .ok (.iconst 3, 1) := by decide +kernel
theorem dX6_shrinks_1 : decode cX6_shrinks 1 = .ok (.istore_n 2, 1) := by decide +kernel
theorem dX6_shrinks_2 : decode cX6_shrinks 2 = .ok (.iload_n 2, 1) := by decide +kernel
theorem dX6_shrinks_3 : decode cX6_shrinks 3 = .ok (.ifCond .lt 61, 3) := by decide +kernel
theorem dX6_shrinks_6 : decode cX6_shrinks 6 = .ok (.iconst 1, 1) := by decide +kernel
theorem dX6_shrinks_7 : decode cX6_shrinks 7 = .ok (.iload_n 2, 1) := by decide +kernel
theorem dX6_shrinks_8 : decode cX6_shrinks 8 = .ok (.ishl, 1) := by decide +kernel
theorem dX6_shrinks_9 : decode cX6_shrinks 9 = .ok (.istore_n 3, 1) := by decide +kernel
theorem dX6_shrinks_10 : decode cX6_shrinks 10 = .ok (.iconst 0, 1) := by decide +kernel
theorem dX6_shrinks_11 : decode cX6_shrinks 11 = .ok (.istore 4, 2) := by decide +kernel
theorem dX6_shrinks_13 : decode cX6_shrinks 13 = .ok (.iload 4, 2) := by decide +kernel
theorem dX6_shrinks_15 : decode cX6_shrinks 15 = .ok (.iload_n 3, 1) := by decide +kernel
theorem dX6_shrinks_16 : decode cX6_shrinks 16 = .ok (.iload_n 3, 1) := by decide +kernel
theorem dX6_shrinks_17 : decode cX6_shrinks 17 = .ok (.imul, 1) := by decide +kernel
theorem dX6_shrinks_18 : decode cX6_shrinks 18 = .ok (.if_icmp .ge 40, 3) := by decide +kernel
theorem dX6_shrinks_21 : decode cX6_shrinks 21 = .ok (.aload_n 0, 1) := by decide +kernel
theorem dX6_shrinks_22 : decode cX6_shrinks 22 = .ok (.iload_n 1, 1) := by decide +kernel
theorem dX6_shrinks_23 : decode cX6_shrinks 23 = .ok (.iload_n 2, 1) := by decide +kernel
theorem dX6_shrinks_24 : decode cX6_shrinks 24 = .ok (.iload 4, 2) := by decide +kernel
theorem dX6_shrinks_26 : decode cX6_shrinks 26 = .ok (.iload_n 3, 1) := by decide +kernel
theorem dX6_shrinks_27 : decode cX6_shrinks 27 = .ok (.idiv, 1) := by decide +kernel
theorem dX6_shrinks_28 : decode cX6_shrinks 28 = .ok (.iload 4, 2) := by decide +kernel
theorem dX6_shrinks_30 : decode cX6_shrinks 30 = .ok (.iload_n 3, 1) := by decide +kernel
theorem dX6_shrinks_31 : decode cX6_shrinks 31 = .ok (.irem, 1) := by decide +kernel
theorem dX6_shrinks_32 : decode cX6_shrinks 32 = .ok (.invokevirtual 63, 3) := by decide +kernel
theorem dX6_shrinks_35 : decode cX6_shrinks 35 = .ok (.ifCond .eq 17, 3) := by decide +kernel
theorem dX6_shrinks_38 : decode cX6_shrinks 38 = .ok (.aload_n 0, 1) := by decide +kernel
theorem dX6_shrinks_39 : decode cX6_shrinks 39 = .ok (.iload_n 1, 1) := by decide +kernel
theorem dX6_shrinks_40 : decode cX6_shrinks 40 = .ok (.iload_n 2, 1) := by decide +kernel
theorem dX6_shrinks_41 : decode cX6_shrinks 41 = .ok (.iload 4, 2) := by decide +kernel
theorem dX6_shrinks_43 : decode cX6_shrinks 43 = .ok (.iload_n 3, 1) := by decide +kernel
theorem dX6_shrinks_44 : decode cX6_shrinks 44 = .ok (.idiv, 1) := by decide +kernel
theorem dX6_shrinks_45 : decode cX6_shrinks 45 = .ok (.iload 4, 2) := by decide +kernel
theorem dX6_shrinks_47 : decode cX6_shrinks 47 = .ok (.iload_n 3, 1) := by decide +kernel
theorem dX6_shrinks_48 : decode cX6_shrinks 48 = .ok (.irem, 1) := by decide +kernel
theorem dX6_shrinks_49 : decode cX6_shrinks 49 = .ok (.invokevirtual 100, 3) := by decide +kernel
theorem dX6_shrinks_52 : decode cX6_shrinks 52 = .ok (.iinc 4 1, 3) := by decide +kernel
theorem dX6_shrinks_55 : decode cX6_shrinks 55 = .ok (.goto (-42), 3) := by decide +kernel
theorem dX6_shrinks_58 : decode cX6_shrinks 58 = .ok (.iinc 2 (-1), 3) := by decide +kernel
theorem dX6_shrinks_61 : decode cX6_shrinks 61 = .ok (.goto (-59), 3) := by decide +kernel
theorem dX6_shrinks_64 : decode cX6_shrinks 64 = .ok (.return_, 1) := by decide +kernel
theorem dX6_tell_0 : decode cX6_tell 0 = .ok (.aload_n 0, 1) := by decide +kernel
theorem dX6_tell_1 : decode cX6_tell 1 = .ok (.iconst 0, 1) := by decide +kernel
theorem dX6_tell_2 : decode cX6_tell 2 = .ok (.putfield 41, 3) := by decide +kernel
theorem dX6_tell_5 : decode cX6_tell 5 = .ok (.iload_n 1, 1) := by decide +kernel
theorem dX6_tell_6 : decode cX6_tell 6 = .ok (.invokestatic 104, 3) := by decide +kernel
theorem dX6_tell_9 : decode cX6_tell 9 = .ok (.ifCond .ne 5, 3) := by decide +kernel
theorem dX6_tell_12 : decode cX6_tell 12 = .ok (.iconst (-1), 1) := by decide +kernel
theorem dX6_tell_13 : decode cX6_tell 13 = .ok (.ireturn, 1) := by decide +kernel
theorem dX6_tell_14 : decode cX6_tell 14 = .ok (.aload_n 0, 1) := by decide +kernel
theorem dX6_tell_15 : decode cX6_tell 15 = .ok (.invokevirtual 108, 3) := by decide +kernel
theorem dX6_tell_18 : decode cX6_tell 18 = .ok (.bipush (-6), 2) := by decide +kernel
theorem dX6_tell_20 : decode cX6_tell 20 = .ok (.if_icmp .eq 6, 3) := by decide +kernel
theorem dX6_tell_23 : decode cX6_tell 23 = .ok (.bipush (-3), 2) := by decide +kernel
theorem dX6_tell_25 : decode cX6_tell 25 = .ok (.ireturn, 1) := by decide +kernel
theorem dX6_tell_26 : decode cX6_tell 26 = .ok (.aload_n 0, 1) := by decide +kernel
theorem dX6_tell_27 : decode cX6_tell 27 = .ok (.invokevirtual 112, 3) := by decide +kernel
theorem dX6_tell_30 : decode cX6_tell 30 = .ok (.aload_n 0, 1) := by decide +kernel
theorem dX6_tell_31 : decode cX6_tell 31 = .ok (.iconst 0, 1) := by decide +kernel
theorem dX6_tell_32 : decode cX6_tell 32 = .ok (.putfield 115, 3) := by decide +kernel
theorem dX6_tell_35 : decode cX6_tell 35 = .ok (.iconst 0, 1) := by decide +kernel
theorem dX6_tell_36 : decode cX6_tell 36 = .ok (.istore_n 2, 1) := by decide +kernel
theorem dX6_tell_37 : decode cX6_tell 37 = .ok (.iload_n 2, 1) := by decide +kernel
theorem dX6_tell_38 : decode cX6_tell 38 = .ok (.sipush 341, 3) := by decide +kernel
theorem dX6_tell_41 : decode cX6_tell 41 = .ok (.if_icmp .ge 27, 3) := by decide +kernel
theorem dX6_tell_44 : decode cX6_tell 44 = .ok (.aload_n 0, 1) := by decide +kernel
theorem dX6_tell_45 : decode cX6_tell 45 = .ok (.getfield 7, 3) := by decide +kernel
theorem dX6_tell_48 : decode cX6_tell 48 = .ok (.sipush 341, 3) := by decide +kernel
theorem dX6_tell_51 : decode cX6_tell 51 = .ok (.iload_n 1, 1) := by decide +kernel
theorem dX6_tell_52 : decode cX6_tell 52 = .ok (.imul, 1) := by decide +kernel
theorem dX6_tell_53 : decode cX6_tell 53 = .ok (.iload_n 2, 1) := by decide +kernel
theorem dX6_tell_54 : decode cX6_tell 54 = .ok (.iadd, 1) := by decide +kernel
theorem dX6_tell_55 : decode cX6_tell 55 = .ok (.aload_n 0, 1) := by decide +kernel
theorem dX6_tell_56 : decode cX6_tell 56 = .ok (.getfield 29, 3) := by decide +kernel
theorem dX6_tell_59 : decode cX6_tell 59 = .ok (.iload_n 2, 1) := by decide +kernel
theorem dX6_tell_60 : decode cX6_tell 60 = .ok (.iaload, 1) := by decide +kernel
theorem dX6_tell_61 : decode cX6_tell 61 = .ok (.iastore, 1) := by decide +kernel
theorem dX6_tell_62 : decode cX6_tell 62 = .ok (.iinc 2 1, 3) := by decide +kernel
theorem dX6_tell_65 : decode cX6_tell 65 = .ok (.goto (-28), 3) := by decide +kernel
theorem dX6_tell_68 : decode cX6_tell 68 = .ok (.aload_n 0, 1) := by decide +kernel
theorem dX6_tell_69 : decode cX6_tell 69 = .ok (.iload_n 1, 1) := by decide +kernel
theorem dX6_tell_70 : decode cX6_tell 70 = .ok (.invokevirtual 78, 3) := by decide +kernel
theorem dX6_tell_73 : decode cX6_tell 73 = .ok (.ireturn, 1) := by decide +kernel
theorem dX6_cuts_0 : decode cX6_cuts 0 = .ok (.aload_n 0, 1) := by decide +kernel
theorem dX6_cuts_1 : decode cX6_cuts 1 = .ok (.iload_n 1, 1) := by decide +kernel
theorem dX6_cuts_2 : decode cX6_cuts 2 = .ok (.iload_n 2, 1) := by decide +kernel
theorem dX6_cuts_3 : decode cX6_cuts 3 = .ok (.iload_n 3, 1) := by decide +kernel
theorem dX6_cuts_4 : decode cX6_cuts 4 = .ok (.iload 4, 2) := by decide +kernel
theorem dX6_cuts_6 : decode cX6_cuts 6 = .ok (.invokevirtual 59, 3) := by decide +kernel
theorem dX6_cuts_9 : decode cX6_cuts 9 = .ok (.istore 5, 2) := by decide +kernel
theorem dX6_cuts_11 : decode cX6_cuts 11 = .ok (.iload 5, 2) := by decide +kernel
theorem dX6_cuts_13 : decode cX6_cuts 13 = .ok (.iconst 3, 1) := by decide +kernel
theorem dX6_cuts_14 : decode cX6_cuts 14 = .ok (.if_icmp .eq 55, 3) := by decide +kernel
theorem dX6_cuts_17 : decode cX6_cuts 17 = .ok (.aload_n 0, 1) := by decide +kernel
theorem dX6_cuts_18 : decode cX6_cuts 18 = .ok (.iload_n 1, 1) := by decide +kernel
theorem dX6_cuts_19 : decode cX6_cuts 19 = .ok (.iload_n 2, 1) := by decide +kernel
theorem dX6_cuts_20 : decode cX6_cuts 20 = .ok (.iload_n 3, 1) := by decide +kernel
theorem dX6_cuts_21 : decode cX6_cuts 21 = .ok (.iload 4, 2) := by decide +kernel
theorem dX6_cuts_23 : decode cX6_cuts 23 = .ok (.iconst 3, 1) := by decide +kernel
theorem dX6_cuts_24 : decode cX6_cuts 24 = .ok (.invokevirtual 96, 3) := by decide +kernel
theorem dX6_cuts_27 : decode cX6_cuts 27 = .ok (.iconst 0, 1) := by decide +kernel
theorem dX6_cuts_28 : decode cX6_cuts 28 = .ok (.istore 6, 2) := by decide +kernel
theorem dX6_cuts_30 : decode cX6_cuts 30 = .ok (.iload 6, 2) := by decide +kernel
theorem dX6_cuts_32 : decode cX6_cuts 32 = .ok (.iconst 4, 1) := by decide +kernel
theorem dX6_cuts_33 : decode cX6_cuts 33 = .ok (.if_icmp .ge 36, 3) := by decide +kernel
theorem dX6_cuts_36 : decode cX6_cuts 36 = .ok (.aload_n 0, 1) := by decide +kernel
theorem dX6_cuts_37 : decode cX6_cuts 37 = .ok (.iload_n 1, 1) := by decide +kernel
theorem dX6_cuts_38 : decode cX6_cuts 38 = .ok (.iload_n 2, 1) := by decide +kernel
theorem dX6_cuts_39 : decode cX6_cuts 39 = .ok (.iconst 1, 1) := by decide +kernel
theorem dX6_cuts_40 : decode cX6_cuts 40 = .ok (.iadd, 1) := by decide +kernel
theorem dX6_cuts_41 : decode cX6_cuts 41 = .ok (.iconst 2, 1) := by decide +kernel
theorem dX6_cuts_42 : decode cX6_cuts 42 = .ok (.iload_n 3, 1) := by decide +kernel
theorem dX6_cuts_43 : decode cX6_cuts 43 = .ok (.imul, 1) := by decide +kernel
theorem dX6_cuts_44 : decode cX6_cuts 44 = .ok (.iload 6, 2) := by decide +kernel
theorem dX6_cuts_46 : decode cX6_cuts 46 = .ok (.iconst 2, 1) := by decide +kernel
theorem dX6_cuts_47 : decode cX6_cuts 47 = .ok (.idiv, 1) := by decide +kernel
theorem dX6_cuts_48 : decode cX6_cuts 48 = .ok (.iadd, 1) := by decide +kernel
theorem dX6_cuts_49 : decode cX6_cuts 49 = .ok (.iconst 2, 1) := by decide +kernel
theorem dX6_cuts_50 : decode cX6_cuts 50 = .ok (.iload 4, 2) := by decide +kernel
theorem dX6_cuts_52 : decode cX6_cuts 52 = .ok (.imul, 1) := by decide +kernel
theorem dX6_cuts_53 : decode cX6_cuts 53 = .ok (.iload 6, 2) := by decide +kernel
theorem dX6_cuts_55 : decode cX6_cuts 55 = .ok (.iconst 2, 1) := by decide +kernel
theorem dX6_cuts_56 : decode cX6_cuts 56 = .ok (.irem, 1) := by decide +kernel
theorem dX6_cuts_57 : decode cX6_cuts 57 = .ok (.iadd, 1) := by decide +kernel
theorem dX6_cuts_58 : decode cX6_cuts 58 = .ok (.iload 5, 2) := by decide +kernel
theorem dX6_cuts_60 : decode cX6_cuts 60 = .ok (.invokevirtual 96, 3) := by decide +kernel
theorem dX6_cuts_63 : decode cX6_cuts 63 = .ok (.iinc 6 1, 3) := by decide +kernel
theorem dX6_cuts_66 : decode cX6_cuts 66 = .ok (.goto (-36), 3) := by decide +kernel
theorem dX6_cuts_69 : decode cX6_cuts 69 = .ok (.return_, 1) := by decide +kernel
theorem dX6_entry_0 : decode cX6_entry 0 = .ok (.aload_n 0, 1) := by decide +kernel
theorem dX6_entry_1 : decode cX6_entry 1 = .ok (.iconst 0, 1) := by decide +kernel
theorem dX6_entry_2 : decode cX6_entry 2 = .ok (.putfield 41, 3) := by decide +kernel
theorem dX6_entry_5 : decode cX6_entry 5 = .ok (.iload_n 1, 1) := by decide +kernel
theorem dX6_entry_6 : decode cX6_entry 6 = .ok (.invokestatic 104, 3) := by decide +kernel
theorem dX6_entry_9 : decode cX6_entry 9 = .ok (.ifCond .eq 11, 3) := by decide +kernel
theorem dX6_entry_12 : decode cX6_entry 12 = .ok (.iload_n 2, 1) := by decide +kernel
theorem dX6_entry_13 : decode cX6_entry 13 = .ok (.iload_n 3, 1) := by decide +kernel
theorem dX6_entry_14 : decode cX6_entry 14 = .ok (.invokestatic 118, 3) := by decide +kernel
theorem dX6_entry_17 : decode cX6_entry 17 = .ok (.ifCond .ne 5, 3) := by decide +kernel
theorem dX6_entry_20 : decode cX6_entry 20 = .ok (.iconst (-1), 1) := by decide +kernel
theorem dX6_entry_21 : decode cX6_entry 21 = .ok (.ireturn, 1) := by decide +kernel
theorem dX6_entry_22 : decode cX6_entry 22 = .ok (.iload 4, 2) := by decide +kernel
theorem dX6_entry_24 : decode cX6_entry 24 = .ok (.ldc 122, 2) := by decide +kernel
theorem dX6_entry_26 : decode cX6_entry 26 = .ok (.ldc 123, 2) := by decide +kernel
theorem dX6_entry_28 : decode cX6_entry 28 = .ok (.invokestatic 45, 3) := by decide +kernel
theorem dX6_entry_31 : decode cX6_entry 31 = .ok (.ifCond .ne 6, 3) := by decide +kernel
theorem dX6_entry_34 : decode cX6_entry 34 = .ok (.bipush (-2), 2) := by decide +kernel
theorem dX6_entry_36 : decode cX6_entry 36 = .ok (.ireturn, 1) := by decide +kernel
theorem dX6_entry_37 : decode cX6_entry 37 = .ok (.aload_n 0, 1) := by decide +kernel
theorem dX6_entry_38 : decode cX6_entry 38 = .ok (.invokevirtual 112, 3) := by decide +kernel
theorem dX6_entry_41 : decode cX6_entry 41 = .ok (.iconst 0, 1) := by decide +kernel
theorem dX6_entry_42 : decode cX6_entry 42 = .ok (.istore 5, 2) := by decide +kernel
theorem dX6_entry_44 : decode cX6_entry 44 = .ok (.iload 5, 2) := by decide +kernel
theorem dX6_entry_46 : decode cX6_entry 46 = .ok (.iconst 3, 1) := by decide +kernel
theorem dX6_entry_47 : decode cX6_entry 47 = .ok (.if_icmp .ge 30, 3) := by decide +kernel
theorem dX6_entry_50 : decode cX6_entry 50 = .ok (.aload_n 0, 1) := by decide +kernel
theorem dX6_entry_51 : decode cX6_entry 51 = .ok (.iload_n 1, 1) := by decide +kernel
theorem dX6_entry_52 : decode cX6_entry 52 = .ok (.iload 5, 2) := by decide +kernel
theorem dX6_entry_54 : decode cX6_entry 54 = .ok (.iload_n 2, 1) := by decide +kernel
theorem dX6_entry_55 : decode cX6_entry 55 = .ok (.iload 5, 2) := by decide +kernel
theorem dX6_entry_57 : decode cX6_entry 57 = .ok (.invokestatic 67, 3) := by decide +kernel
theorem dX6_entry_60 : decode cX6_entry 60 = .ok (.idiv, 1) := by decide +kernel
theorem dX6_entry_61 : decode cX6_entry 61 = .ok (.iload_n 3, 1) := by decide +kernel
theorem dX6_entry_62 : decode cX6_entry 62 = .ok (.iload 5, 2) := by decide +kernel
theorem dX6_entry_64 : decode cX6_entry 64 = .ok (.invokestatic 67, 3) := by decide +kernel
theorem dX6_entry_67 : decode cX6_entry 67 = .ok (.idiv, 1) := by decide +kernel
theorem dX6_entry_68 : decode cX6_entry 68 = .ok (.invokevirtual 124, 3) := by decide +kernel
theorem dX6_entry_71 : decode cX6_entry 71 = .ok (.iinc 5 1, 3) := by decide +kernel
theorem dX6_entry_74 : decode cX6_entry 74 = .ok (.goto (-30), 3) := by decide +kernel
theorem dX6_entry_77 : decode cX6_entry 77 = .ok (.aload_n 0, 1) := by decide +kernel
theorem dX6_entry_78 : decode cX6_entry 78 = .ok (.iload_n 1, 1) := by decide +kernel
theorem dX6_entry_79 : decode cX6_entry 79 = .ok (.iconst 3, 1) := by decide +kernel
theorem dX6_entry_80 : decode cX6_entry 80 = .ok (.iload_n 2, 1) := by decide +kernel
theorem dX6_entry_81 : decode cX6_entry 81 = .ok (.iconst 2, 1) := by decide +kernel
theorem dX6_entry_82 : decode cX6_entry 82 = .ok (.idiv, 1) := by decide +kernel
theorem dX6_entry_83 : decode cX6_entry 83 = .ok (.iload_n 3, 1) := by decide +kernel
theorem dX6_entry_84 : decode cX6_entry 84 = .ok (.iconst 2, 1) := by decide +kernel
theorem dX6_entry_85 : decode cX6_entry 85 = .ok (.idiv, 1) := by decide +kernel
theorem dX6_entry_86 : decode cX6_entry 86 = .ok (.iconst 1, 1) := by decide +kernel
theorem dX6_entry_87 : decode cX6_entry 87 = .ok (.invokevirtual 96, 3) := by decide +kernel
theorem dX6_entry_90 : decode cX6_entry 90 = .ok (.aload_n 0, 1) := by decide +kernel
theorem dX6_entry_91 : decode cX6_entry 91 = .ok (.iload_n 1, 1) := by decide +kernel
theorem dX6_entry_92 : decode cX6_entry 92 = .ok (.iload_n 2, 1) := by decide +kernel
theorem dX6_entry_93 : decode cX6_entry 93 = .ok (.iload_n 3, 1) := by decide +kernel
theorem dX6_entry_94 : decode cX6_entry 94 = .ok (.invokevirtual 81, 3) := by decide +kernel
theorem dX6_entry_97 : decode cX6_entry 97 = .ok (.istore 5, 2) := by decide +kernel
theorem dX6_entry_99 : decode cX6_entry 99 = .ok (.aload_n 0, 1) := by decide +kernel
theorem dX6_entry_100 : decode cX6_entry 100 = .ok (.iload_n 1, 1) := by decide +kernel
theorem dX6_entry_101 : decode cX6_entry 101 = .ok (.iload_n 2, 1) := by decide +kernel
theorem dX6_entry_102 : decode cX6_entry 102 = .ok (.iload_n 3, 1) := by decide +kernel
theorem dX6_entry_103 : decode cX6_entry 103 = .ok (.iload 4, 2) := by decide +kernel
theorem dX6_entry_105 : decode cX6_entry 105 = .ok (.invokevirtual 127, 3) := by decide +kernel
theorem dX6_entry_108 : decode cX6_entry 108 = .ok (.iload 5, 2) := by decide +kernel
theorem dX6_entry_110 : decode cX6_entry 110 = .ok (.ldc 123, 2) := by decide +kernel
theorem dX6_entry_112 : decode cX6_entry 112 = .ok (.iadd, 1) := by decide +kernel
theorem dX6_entry_113 : decode cX6_entry 113 = .ok (.ireturn, 1) := by decide +kernel
theorem dX6_shrink_0 : decode cX6_shrink 0 = .ok (.aload_n 0, 1) := by decide +kernel
theorem dX6_shrink_1 : decode cX6_shrink 1 = .ok (.iconst 0, 1) := by decide +kernel
theorem dX6_shrink_2 : decode cX6_shrink 2 = .ok (.putfield 41, 3) := by decide +kernel
theorem dX6_shrink_5 : decode cX6_shrink 5 = .ok (.iload_n 1, 1) := by decide +kernel
theorem dX6_shrink_6 : decode cX6_shrink 6 = .ok (.invokestatic 104, 3) := by decide +kernel
theorem dX6_shrink_9 : decode cX6_shrink 9 = .ok (.ifCond .ne 5, 3) := by decide +kernel
theorem dX6_shrink_12 : decode cX6_shrink 12 = .ok (.iconst (-1), 1) := by decide +kernel
theorem dX6_shrink_13 : decode cX6_shrink 13 = .ok (.ireturn, 1) := by decide +kernel
theorem dX6_shrink_14 : decode cX6_shrink 14 = .ok (.aload_n 0, 1) := by decide +kernel
theorem dX6_shrink_15 : decode cX6_shrink 15 = .ok (.invokevirtual 112, 3) := by decide +kernel
theorem dX6_shrink_18 : decode cX6_shrink 18 = .ok (.aload_n 0, 1) := by decide +kernel
theorem dX6_shrink_19 : decode cX6_shrink 19 = .ok (.iload_n 1, 1) := by decide +kernel
theorem dX6_shrink_20 : decode cX6_shrink 20 = .ok (.invokevirtual 78, 3) := by decide +kernel
theorem dX6_shrink_23 : decode cX6_shrink 23 = .ok (.istore_n 2, 1) := by decide +kernel
theorem dX6_shrink_24 : decode cX6_shrink 24 = .ok (.aload_n 0, 1) := by decide +kernel
theorem dX6_shrink_25 : decode cX6_shrink 25 = .ok (.iload_n 1, 1) := by decide +kernel
theorem dX6_shrink_26 : decode cX6_shrink 26 = .ok (.invokevirtual 130, 3) := by decide +kernel
theorem dX6_shrink_29 : decode cX6_shrink 29 = .ok (.iload_n 2, 1) := by decide +kernel
theorem dX6_shrink_30 : decode cX6_shrink 30 = .ok (.aload_n 0, 1) := by decide +kernel
theorem dX6_shrink_31 : decode cX6_shrink 31 = .ok (.iload_n 1, 1) := by decide +kernel
theorem dX6_shrink_32 : decode cX6_shrink 32 = .ok (.invokevirtual 78, 3) := by decide +kernel
theorem dX6_shrink_35 : decode cX6_shrink 35 = .ok (.isub, 1) := by decide +kernel
theorem dX6_shrink_36 : decode cX6_shrink 36 = .ok (.ireturn, 1) := by decide +kernel
theorem dX6_bounded_0 : decode cX6_bounded 0 = .ok (.iload_n 0, 1) := by decide +kernel
theorem dX6_bounded_1 : decode cX6_bounded 1 = .ok (.ldc 123, 2) := by decide +kernel
theorem dX6_bounded_3 : decode cX6_bounded 3 = .ok (.if_icmp .le 8, 3) := by decide +kernel
theorem dX6_bounded_6 : decode cX6_bounded 6 = .ok (.ldc 123, 2) := by decide +kernel
theorem dX6_bounded_8 : decode cX6_bounded 8 = .ok (.goto 15, 3) := by decide +kernel
theorem dX6_bounded_11 : decode cX6_bounded 11 = .ok (.iload_n 0, 1) := by decide +kernel
theorem dX6_bounded_12 : decode cX6_bounded 12 = .ok (.ldc 122, 2) := by decide +kernel
theorem dX6_bounded_14 : decode cX6_bounded 14 = .ok (.if_icmp .ge 8, 3) := by decide +kernel
theorem dX6_bounded_17 : decode cX6_bounded 17 = .ok (.ldc 122, 2) := by decide +kernel
theorem dX6_bounded_19 : decode cX6_bounded 19 = .ok (.goto 4, 3) := by decide +kernel
theorem dX6_bounded_22 : decode cX6_bounded 22 = .ok (.iload_n 0, 1) := by decide +kernel
theorem dX6_bounded_23 : decode cX6_bounded 23 = .ok (.ireturn, 1) := by decide +kernel
theorem dX6_addsSquare_0 : decode cX6_addsSquare 0 = .ok (.iconst 0, 1) := by decide +kernel
theorem dX6_addsSquare_1 : decode cX6_addsSquare 1 = .ok (.istore 7, 2) := by decide +kernel
theorem dX6_addsSquare_3 : decode cX6_addsSquare 3 = .ok (.iload 7, 2) := by decide +kernel
theorem dX6_addsSquare_5 : decode cX6_addsSquare 5 = .ok (.iload 6, 2) := by decide +kernel
theorem dX6_addsSquare_7 : decode cX6_addsSquare 7 = .ok (.iload 6, 2) := by decide +kernel
theorem dX6_addsSquare_9 : decode cX6_addsSquare 9 = .ok (.imul, 1) := by decide +kernel
theorem dX6_addsSquare_10 : decode cX6_addsSquare 10 = .ok (.if_icmp .ge 62, 3) := by decide +kernel
theorem dX6_addsSquare_13 : decode cX6_addsSquare 13 = .ok (.iload 4, 2) := by decide +kernel
theorem dX6_addsSquare_15 : decode cX6_addsSquare 15 = .ok (.iload 7, 2) := by decide +kernel
theorem dX6_addsSquare_17 : decode cX6_addsSquare 17 = .ok (.iload 6, 2) := by decide +kernel
theorem dX6_addsSquare_19 : decode cX6_addsSquare 19 = .ok (.idiv, 1) := by decide +kernel
theorem dX6_addsSquare_20 : decode cX6_addsSquare 20 = .ok (.iadd, 1) := by decide +kernel
theorem dX6_addsSquare_21 : decode cX6_addsSquare 21 = .ok (.istore 8, 2) := by decide +kernel
theorem dX6_addsSquare_23 : decode cX6_addsSquare 23 = .ok (.iload 5, 2) := by decide +kernel
theorem dX6_addsSquare_25 : decode cX6_addsSquare 25 = .ok (.iload 7, 2) := by decide +kernel
theorem dX6_addsSquare_27 : decode cX6_addsSquare 27 = .ok (.iload 6, 2) := by decide +kernel
theorem dX6_addsSquare_29 : decode cX6_addsSquare 29 = .ok (.irem, 1) := by decide +kernel
theorem dX6_addsSquare_30 : decode cX6_addsSquare 30 = .ok (.iadd, 1) := by decide +kernel
theorem dX6_addsSquare_31 : decode cX6_addsSquare 31 = .ok (.istore 9, 2) := by decide +kernel
theorem dX6_addsSquare_33 : decode cX6_addsSquare 33 = .ok (.aload_n 0, 1) := by decide +kernel
theorem dX6_addsSquare_34 : decode cX6_addsSquare 34 = .ok (.iload_n 1, 1) := by decide +kernel
theorem dX6_addsSquare_35 : decode cX6_addsSquare 35 = .ok (.iload 8, 2) := by decide +kernel
theorem dX6_addsSquare_37 : decode cX6_addsSquare 37 = .ok (.iload 9, 2) := by decide +kernel
theorem dX6_addsSquare_39 : decode cX6_addsSquare 39 = .ok (.aload_n 0, 1) := by decide +kernel
theorem dX6_addsSquare_40 : decode cX6_addsSquare 40 = .ok (.iload_n 1, 1) := by decide +kernel
theorem dX6_addsSquare_41 : decode cX6_addsSquare 41 = .ok (.iload 8, 2) := by decide +kernel
theorem dX6_addsSquare_43 : decode cX6_addsSquare 43 = .ok (.iload 9, 2) := by decide +kernel
theorem dX6_addsSquare_45 : decode cX6_addsSquare 45 = .ok (.invokevirtual 81, 3) := by decide +kernel
theorem dX6_addsSquare_48 : decode cX6_addsSquare 48 = .ok (.iload_n 3, 1) := by decide +kernel
theorem dX6_addsSquare_49 : decode cX6_addsSquare 49 = .ok (.aload_n 0, 1) := by decide +kernel
theorem dX6_addsSquare_50 : decode cX6_addsSquare 50 = .ok (.iload_n 2, 1) := by decide +kernel
theorem dX6_addsSquare_51 : decode cX6_addsSquare 51 = .ok (.iload 8, 2) := by decide +kernel
theorem dX6_addsSquare_53 : decode cX6_addsSquare 53 = .ok (.iload 9, 2) := by decide +kernel
theorem dX6_addsSquare_55 : decode cX6_addsSquare 55 = .ok (.invokevirtual 81, 3) := by decide +kernel
theorem dX6_addsSquare_58 : decode cX6_addsSquare 58 = .ok (.imul, 1) := by decide +kernel
theorem dX6_addsSquare_59 : decode cX6_addsSquare 59 = .ok (.iadd, 1) := by decide +kernel
theorem dX6_addsSquare_60 : decode cX6_addsSquare 60 = .ok (.invokestatic 134, 3) := by decide +kernel
theorem dX6_addsSquare_63 : decode cX6_addsSquare 63 = .ok (.invokevirtual 127, 3) := by decide +kernel
theorem dX6_addsSquare_66 : decode cX6_addsSquare 66 = .ok (.iinc 7 1, 3) := by decide +kernel
theorem dX6_addsSquare_69 : decode cX6_addsSquare 69 = .ok (.goto (-66), 3) := by decide +kernel
theorem dX6_addsSquare_72 : decode cX6_addsSquare 72 = .ok (.return_, 1) := by decide +kernel
theorem dX6_addsBlock_0 : decode cX6_addsBlock 0 = .ok (.aload_n 0, 1) := by decide +kernel
theorem dX6_addsBlock_1 : decode cX6_addsBlock 1 = .ok (.iload_n 2, 1) := by decide +kernel
theorem dX6_addsBlock_2 : decode cX6_addsBlock 2 = .ok (.iload 4, 2) := by decide +kernel
theorem dX6_addsBlock_4 : decode cX6_addsBlock 4 = .ok (.iload 5, 2) := by decide +kernel
theorem dX6_addsBlock_6 : decode cX6_addsBlock 6 = .ok (.iload 6, 2) := by decide +kernel
theorem dX6_addsBlock_8 : decode cX6_addsBlock 8 = .ok (.invokevirtual 59, 3) := by decide +kernel
theorem dX6_addsBlock_11 : decode cX6_addsBlock 11 = .ok (.istore 7, 2) := by decide +kernel
theorem dX6_addsBlock_13 : decode cX6_addsBlock 13 = .ok (.iload 7, 2) := by decide +kernel
theorem dX6_addsBlock_15 : decode cX6_addsBlock 15 = .ok (.iconst 3, 1) := by decide +kernel
theorem dX6_addsBlock_16 : decode cX6_addsBlock 16 = .ok (.if_icmp .ne 67, 3) := by decide +kernel
theorem dX6_addsBlock_19 : decode cX6_addsBlock 19 = .ok (.aload_n 0, 1) := by decide +kernel
theorem dX6_addsBlock_20 : decode cX6_addsBlock 20 = .ok (.iload_n 1, 1) := by decide +kernel
theorem dX6_addsBlock_21 : decode cX6_addsBlock 21 = .ok (.iload 4, 2) := by decide +kernel
theorem dX6_addsBlock_23 : decode cX6_addsBlock 23 = .ok (.iload 5, 2) := by decide +kernel
theorem dX6_addsBlock_25 : decode cX6_addsBlock 25 = .ok (.iload 6, 2) := by decide +kernel
theorem dX6_addsBlock_27 : decode cX6_addsBlock 27 = .ok (.invokevirtual 59, 3) := by decide +kernel
theorem dX6_addsBlock_30 : decode cX6_addsBlock 30 = .ok (.iconst 3, 1) := by decide +kernel
theorem dX6_addsBlock_31 : decode cX6_addsBlock 31 = .ok (.if_icmp .ne 52, 3) := by decide +kernel
theorem dX6_addsBlock_34 : decode cX6_addsBlock 34 = .ok (.iconst 0, 1) := by decide +kernel
theorem dX6_addsBlock_35 : decode cX6_addsBlock 35 = .ok (.istore 8, 2) := by decide +kernel
theorem dX6_addsBlock_37 : decode cX6_addsBlock 37 = .ok (.iload 8, 2) := by decide +kernel
theorem dX6_addsBlock_39 : decode cX6_addsBlock 39 = .ok (.iconst 4, 1) := by decide +kernel
theorem dX6_addsBlock_40 : decode cX6_addsBlock 40 = .ok (.if_icmp .ge 40, 3) := by decide +kernel
theorem dX6_addsBlock_43 : decode cX6_addsBlock 43 = .ok (.aload_n 0, 1) := by decide +kernel
theorem dX6_addsBlock_44 : decode cX6_addsBlock 44 = .ok (.getfield 38, 3) := by decide +kernel
theorem dX6_addsBlock_47 : decode cX6_addsBlock 47 = .ok (.iload 4, 2) := by decide +kernel
theorem dX6_addsBlock_49 : decode cX6_addsBlock 49 = .ok (.iconst 1, 1) := by decide +kernel
theorem dX6_addsBlock_50 : decode cX6_addsBlock 50 = .ok (.iadd, 1) := by decide +kernel
theorem dX6_addsBlock_51 : decode cX6_addsBlock 51 = .ok (.iconst 2, 1) := by decide +kernel
theorem dX6_addsBlock_52 : decode cX6_addsBlock 52 = .ok (.iload 5, 2) := by decide +kernel
theorem dX6_addsBlock_54 : decode cX6_addsBlock 54 = .ok (.imul, 1) := by decide +kernel
theorem dX6_addsBlock_55 : decode cX6_addsBlock 55 = .ok (.iload 8, 2) := by decide +kernel
theorem dX6_addsBlock_57 : decode cX6_addsBlock 57 = .ok (.iconst 2, 1) := by decide +kernel
theorem dX6_addsBlock_58 : decode cX6_addsBlock 58 = .ok (.idiv, 1) := by decide +kernel
theorem dX6_addsBlock_59 : decode cX6_addsBlock 59 = .ok (.iadd, 1) := by decide +kernel
theorem dX6_addsBlock_60 : decode cX6_addsBlock 60 = .ok (.iconst 2, 1) := by decide +kernel
theorem dX6_addsBlock_61 : decode cX6_addsBlock 61 = .ok (.iload 6, 2) := by decide +kernel
theorem dX6_addsBlock_63 : decode cX6_addsBlock 63 = .ok (.imul, 1) := by decide +kernel
theorem dX6_addsBlock_64 : decode cX6_addsBlock 64 = .ok (.iload 8, 2) := by decide +kernel
theorem dX6_addsBlock_66 : decode cX6_addsBlock 66 = .ok (.iconst 2, 1) := by decide +kernel
theorem dX6_addsBlock_67 : decode cX6_addsBlock 67 = .ok (.irem, 1) := by decide +kernel
theorem dX6_addsBlock_68 : decode cX6_addsBlock 68 = .ok (.iadd, 1) := by decide +kernel
theorem dX6_addsBlock_69 : decode cX6_addsBlock 69 = .ok (.invokestatic 49, 3) := by decide +kernel
theorem dX6_addsBlock_72 : decode cX6_addsBlock 72 = .ok (.iconst 1, 1) := by decide +kernel
theorem dX6_addsBlock_73 : decode cX6_addsBlock 73 = .ok (.bastore, 1) := by decide +kernel
theorem dX6_addsBlock_74 : decode cX6_addsBlock 74 = .ok (.iinc 8 1, 3) := by decide +kernel
theorem dX6_addsBlock_77 : decode cX6_addsBlock 77 = .ok (.goto (-40), 3) := by decide +kernel
theorem dX6_addsBlock_80 : decode cX6_addsBlock 80 = .ok (.goto 48, 3) := by decide +kernel
theorem dX6_addsBlock_83 : decode cX6_addsBlock 83 = .ok (.iload 7, 2) := by decide +kernel
theorem dX6_addsBlock_85 : decode cX6_addsBlock 85 = .ok (.ifCond .eq 43, 3) := by decide +kernel
theorem dX6_addsBlock_88 : decode cX6_addsBlock 88 = .ok (.aload_n 0, 1) := by decide +kernel
theorem dX6_addsBlock_89 : decode cX6_addsBlock 89 = .ok (.iload_n 1, 1) := by decide +kernel
theorem dX6_addsBlock_90 : decode cX6_addsBlock 90 = .ok (.iload 4, 2) := by decide +kernel
theorem dX6_addsBlock_92 : decode cX6_addsBlock 92 = .ok (.iload 5, 2) := by decide +kernel
theorem dX6_addsBlock_94 : decode cX6_addsBlock 94 = .ok (.iload 6, 2) := by decide +kernel
theorem dX6_addsBlock_96 : decode cX6_addsBlock 96 = .ok (.iconst 1, 1) := by decide +kernel
theorem dX6_addsBlock_97 : decode cX6_addsBlock 97 = .ok (.invokevirtual 96, 3) := by decide +kernel
theorem dX6_addsBlock_100 : decode cX6_addsBlock 100 = .ok (.aload_n 0, 1) := by decide +kernel
theorem dX6_addsBlock_101 : decode cX6_addsBlock 101 = .ok (.iload_n 1, 1) := by decide +kernel
theorem dX6_addsBlock_102 : decode cX6_addsBlock 102 = .ok (.iload_n 2, 1) := by decide +kernel
theorem dX6_addsBlock_103 : decode cX6_addsBlock 103 = .ok (.iload_n 3, 1) := by decide +kernel
theorem dX6_addsBlock_104 : decode cX6_addsBlock 104 = .ok (.iload 5, 2) := by decide +kernel
theorem dX6_addsBlock_106 : decode cX6_addsBlock 106 = .ok (.iload 4, 2) := by decide +kernel
theorem dX6_addsBlock_108 : decode cX6_addsBlock 108 = .ok (.invokestatic 67, 3) := by decide +kernel
theorem dX6_addsBlock_111 : decode cX6_addsBlock 111 = .ok (.imul, 1) := by decide +kernel
theorem dX6_addsBlock_112 : decode cX6_addsBlock 112 = .ok (.iload 6, 2) := by decide +kernel
theorem dX6_addsBlock_114 : decode cX6_addsBlock 114 = .ok (.iload 4, 2) := by decide +kernel
theorem dX6_addsBlock_116 : decode cX6_addsBlock 116 = .ok (.invokestatic 67, 3) := by decide +kernel
theorem dX6_addsBlock_119 : decode cX6_addsBlock 119 = .ok (.imul, 1) := by decide +kernel
theorem dX6_addsBlock_120 : decode cX6_addsBlock 120 = .ok (.iload 4, 2) := by decide +kernel
theorem dX6_addsBlock_122 : decode cX6_addsBlock 122 = .ok (.invokestatic 67, 3) := by decide +kernel
theorem dX6_addsBlock_125 : decode cX6_addsBlock 125 = .ok (.invokevirtual 137, 3) := by decide +kernel
theorem dX6_addsBlock_128 : decode cX6_addsBlock 128 = .ok (.return_, 1) := by decide +kernel
theorem dX6_add_0 : decode cX6_add 0 = .ok (.aload_n 0, 1) := by decide +kernel
theorem dX6_add_1 : decode cX6_add 1 = .ok (.iconst 0, 1) := by decide +kernel
theorem dX6_add_2 : decode cX6_add 2 = .ok (.putfield 41, 3) := by decide +kernel
theorem dX6_add_5 : decode cX6_add 5 = .ok (.iload_n 1, 1) := by decide +kernel
theorem dX6_add_6 : decode cX6_add 6 = .ok (.invokestatic 104, 3) := by decide +kernel
theorem dX6_add_9 : decode cX6_add 9 = .ok (.ifCond .eq 10, 3) := by decide +kernel
theorem dX6_add_12 : decode cX6_add 12 = .ok (.iload_n 2, 1) := by decide +kernel
theorem dX6_add_13 : decode cX6_add 13 = .ok (.invokestatic 104, 3) := by decide +kernel
theorem dX6_add_16 : decode cX6_add 16 = .ok (.ifCond .ne 5, 3) := by decide +kernel
theorem dX6_add_19 : decode cX6_add 19 = .ok (.iconst (-1), 1) := by decide +kernel
theorem dX6_add_20 : decode cX6_add 20 = .ok (.ireturn, 1) := by decide +kernel
theorem dX6_add_21 : decode cX6_add 21 = .ok (.iload_n 3, 1) := by decide +kernel
theorem dX6_add_22 : decode cX6_add 22 = .ok (.bipush (-99), 2) := by decide +kernel
theorem dX6_add_24 : decode cX6_add 24 = .ok (.bipush 99, 2) := by decide +kernel
theorem dX6_add_26 : decode cX6_add 26 = .ok (.invokestatic 45, 3) := by decide +kernel
theorem dX6_add_29 : decode cX6_add 29 = .ok (.ifCond .eq 12, 3) := by decide +kernel
theorem dX6_add_32 : decode cX6_add 32 = .ok (.iload_n 3, 1) := by decide +kernel
theorem dX6_add_33 : decode cX6_add 33 = .ok (.ifCond .eq 8, 3) := by decide +kernel
theorem dX6_add_36 : decode cX6_add 36 = .ok (.iload_n 1, 1) := by decide +kernel
theorem dX6_add_37 : decode cX6_add 37 = .ok (.iload_n 2, 1) := by decide +kernel
theorem dX6_add_38 : decode cX6_add 38 = .ok (.if_icmp .ne 6, 3) := by decide +kernel
theorem dX6_add_41 : decode cX6_add 41 = .ok (.bipush (-2), 2) := by decide +kernel
theorem dX6_add_43 : decode cX6_add 43 = .ok (.ireturn, 1) := by decide +kernel
theorem dX6_add_44 : decode cX6_add 44 = .ok (.aload_n 0, 1) := by decide +kernel
theorem dX6_add_45 : decode cX6_add 45 = .ok (.invokevirtual 112, 3) := by decide +kernel
theorem dX6_add_48 : decode cX6_add 48 = .ok (.iconst 0, 1) := by decide +kernel
theorem dX6_add_49 : decode cX6_add 49 = .ok (.istore 4, 2) := by decide +kernel
theorem dX6_add_51 : decode cX6_add 51 = .ok (.iload 4, 2) := by decide +kernel
theorem dX6_add_53 : decode cX6_add 53 = .ok (.bipush 85, 2) := by decide +kernel
theorem dX6_add_55 : decode cX6_add 55 = .ok (.if_icmp .ge 26, 3) := by decide +kernel
theorem dX6_add_58 : decode cX6_add 58 = .ok (.aload_n 0, 1) := by decide +kernel
theorem dX6_add_59 : decode cX6_add 59 = .ok (.getfield 38, 3) := by decide +kernel
theorem dX6_add_62 : decode cX6_add 62 = .ok (.iload 4, 2) := by decide +kernel
theorem dX6_add_64 : decode cX6_add 64 = .ok (.iload 4, 2) := by decide +kernel
theorem dX6_add_66 : decode cX6_add 66 = .ok (.ifCond .ne 7, 3) := by decide +kernel
theorem dX6_add_69 : decode cX6_add 69 = .ok (.iconst 1, 1) := by decide +kernel
theorem dX6_add_70 : decode cX6_add 70 = .ok (.goto 4, 3) := by decide +kernel
theorem dX6_add_73 : decode cX6_add 73 = .ok (.iconst 0, 1) := by decide +kernel
theorem dX6_add_74 : decode cX6_add 74 = .ok (.bastore, 1) := by decide +kernel
theorem dX6_add_75 : decode cX6_add 75 = .ok (.iinc 4 1, 3) := by decide +kernel
theorem dX6_add_78 : decode cX6_add 78 = .ok (.goto (-27), 3) := by decide +kernel
theorem dX6_add_81 : decode cX6_add 81 = .ok (.iconst 0, 1) := by decide +kernel
theorem dX6_add_82 : decode cX6_add 82 = .ok (.istore 4, 2) := by decide +kernel
theorem dX6_add_84 : decode cX6_add 84 = .ok (.iload 4, 2) := by decide +kernel
theorem dX6_add_86 : decode cX6_add 86 = .ok (.iconst 4, 1) := by decide +kernel
theorem dX6_add_87 : decode cX6_add 87 = .ok (.if_icmp .ge 76, 3) := by decide +kernel
theorem dX6_add_90 : decode cX6_add 90 = .ok (.iconst 1, 1) := by decide +kernel
theorem dX6_add_91 : decode cX6_add 91 = .ok (.iload 4, 2) := by decide +kernel
theorem dX6_add_93 : decode cX6_add 93 = .ok (.ishl, 1) := by decide +kernel
theorem dX6_add_94 : decode cX6_add 94 = .ok (.istore 5, 2) := by decide +kernel
theorem dX6_add_96 : decode cX6_add 96 = .ok (.iconst 0, 1) := by decide +kernel
theorem dX6_add_97 : decode cX6_add 97 = .ok (.istore 6, 2) := by decide +kernel
theorem dX6_add_99 : decode cX6_add 99 = .ok (.iload 6, 2) := by decide +kernel
theorem dX6_add_101 : decode cX6_add 101 = .ok (.iload 5, 2) := by decide +kernel
theorem dX6_add_103 : decode cX6_add 103 = .ok (.iload 5, 2) := by decide +kernel
theorem dX6_add_105 : decode cX6_add 105 = .ok (.imul, 1) := by decide +kernel
theorem dX6_add_106 : decode cX6_add 106 = .ok (.if_icmp .ge 51, 3) := by decide +kernel
theorem dX6_add_109 : decode cX6_add 109 = .ok (.aload_n 0, 1) := by decide +kernel
theorem dX6_add_110 : decode cX6_add 110 = .ok (.getfield 38, 3) := by decide +kernel
theorem dX6_add_113 : decode cX6_add 113 = .ok (.iload 4, 2) := by decide +kernel
theorem dX6_add_115 : decode cX6_add 115 = .ok (.iload 6, 2) := by decide +kernel
theorem dX6_add_117 : decode cX6_add 117 = .ok (.iload 5, 2) := by decide +kernel
theorem dX6_add_119 : decode cX6_add 119 = .ok (.idiv, 1) := by decide +kernel
theorem dX6_add_120 : decode cX6_add 120 = .ok (.iload 6, 2) := by decide +kernel
theorem dX6_add_122 : decode cX6_add 122 = .ok (.iload 5, 2) := by decide +kernel
theorem dX6_add_124 : decode cX6_add 124 = .ok (.irem, 1) := by decide +kernel
theorem dX6_add_125 : decode cX6_add 125 = .ok (.invokestatic 49, 3) := by decide +kernel
theorem dX6_add_128 : decode cX6_add 128 = .ok (.baload, 1) := by decide +kernel
theorem dX6_add_129 : decode cX6_add 129 = .ok (.ifCond .eq 22, 3) := by decide +kernel
theorem dX6_add_132 : decode cX6_add 132 = .ok (.aload_n 0, 1) := by decide +kernel
theorem dX6_add_133 : decode cX6_add 133 = .ok (.iload_n 1, 1) := by decide +kernel
theorem dX6_add_134 : decode cX6_add 134 = .ok (.iload_n 2, 1) := by decide +kernel
theorem dX6_add_135 : decode cX6_add 135 = .ok (.iload_n 3, 1) := by decide +kernel
theorem dX6_add_136 : decode cX6_add 136 = .ok (.iload 4, 2) := by decide +kernel
theorem dX6_add_138 : decode cX6_add 138 = .ok (.iload 6, 2) := by decide +kernel
theorem dX6_add_140 : decode cX6_add 140 = .ok (.iload 5, 2) := by decide +kernel
theorem dX6_add_142 : decode cX6_add 142 = .ok (.idiv, 1) := by decide +kernel
theorem dX6_add_143 : decode cX6_add 143 = .ok (.iload 6, 2) := by decide +kernel
theorem dX6_add_145 : decode cX6_add 145 = .ok (.iload 5, 2) := by decide +kernel
theorem dX6_add_147 : decode cX6_add 147 = .ok (.irem, 1) := by decide +kernel
theorem dX6_add_148 : decode cX6_add 148 = .ok (.invokevirtual 141, 3) := by decide +kernel
theorem dX6_add_151 : decode cX6_add 151 = .ok (.iinc 6 1, 3) := by decide +kernel
theorem dX6_add_154 : decode cX6_add 154 = .ok (.goto (-55), 3) := by decide +kernel
theorem dX6_add_157 : decode cX6_add 157 = .ok (.iinc 4 1, 3) := by decide +kernel
theorem dX6_add_160 : decode cX6_add 160 = .ok (.goto (-76), 3) := by decide +kernel
theorem dX6_add_163 : decode cX6_add 163 = .ok (.aload_n 0, 1) := by decide +kernel
theorem dX6_add_164 : decode cX6_add 164 = .ok (.iload_n 1, 1) := by decide +kernel
theorem dX6_add_165 : decode cX6_add 165 = .ok (.invokevirtual 78, 3) := by decide +kernel
theorem dX6_add_168 : decode cX6_add 168 = .ok (.ireturn, 1) := by decide +kernel
theorem dX6_swaps_0 : decode cX6_swaps 0 = .ok (.aload_n 0, 1) := by decide +kernel
theorem dX6_swaps_1 : decode cX6_swaps 1 = .ok (.getfield 7, 3) := by decide +kernel
theorem dX6_swaps_4 : decode cX6_swaps 4 = .ok (.sipush 341, 3) := by decide +kernel
theorem dX6_swaps_7 : decode cX6_swaps 7 = .ok (.iload_n 1, 1) := by decide +kernel
theorem dX6_swaps_8 : decode cX6_swaps 8 = .ok (.imul, 1) := by decide +kernel
theorem dX6_swaps_9 : decode cX6_swaps 9 = .ok (.iload_n 2, 1) := by decide +kernel
theorem dX6_swaps_10 : decode cX6_swaps 10 = .ok (.iadd, 1) := by decide +kernel
theorem dX6_swaps_11 : decode cX6_swaps 11 = .ok (.iaload, 1) := by decide +kernel
theorem dX6_swaps_12 : decode cX6_swaps 12 = .ok (.istore 4, 2) := by decide +kernel
theorem dX6_swaps_14 : decode cX6_swaps 14 = .ok (.aload_n 0, 1) := by decide +kernel
theorem dX6_swaps_15 : decode cX6_swaps 15 = .ok (.getfield 7, 3) := by decide +kernel
theorem dX6_swaps_18 : decode cX6_swaps 18 = .ok (.sipush 341, 3) := by decide +kernel
theorem dX6_swaps_21 : decode cX6_swaps 21 = .ok (.iload_n 1, 1) := by decide +kernel
theorem dX6_swaps_22 : decode cX6_swaps 22 = .ok (.imul, 1) := by decide +kernel
theorem dX6_swaps_23 : decode cX6_swaps 23 = .ok (.iload_n 2, 1) := by decide +kernel
theorem dX6_swaps_24 : decode cX6_swaps 24 = .ok (.iadd, 1) := by decide +kernel
theorem dX6_swaps_25 : decode cX6_swaps 25 = .ok (.aload_n 0, 1) := by decide +kernel
theorem dX6_swaps_26 : decode cX6_swaps 26 = .ok (.getfield 7, 3) := by decide +kernel
theorem dX6_swaps_29 : decode cX6_swaps 29 = .ok (.sipush 341, 3) := by decide +kernel
theorem dX6_swaps_32 : decode cX6_swaps 32 = .ok (.iload_n 1, 1) := by decide +kernel
theorem dX6_swaps_33 : decode cX6_swaps 33 = .ok (.imul, 1) := by decide +kernel
theorem dX6_swaps_34 : decode cX6_swaps 34 = .ok (.iload_n 3, 1) := by decide +kernel
theorem dX6_swaps_35 : decode cX6_swaps 35 = .ok (.iadd, 1) := by decide +kernel
theorem dX6_swaps_36 : decode cX6_swaps 36 = .ok (.iaload, 1) := by decide +kernel
theorem dX6_swaps_37 : decode cX6_swaps 37 = .ok (.iastore, 1) := by decide +kernel
theorem dX6_swaps_38 : decode cX6_swaps 38 = .ok (.aload_n 0, 1) := by decide +kernel
theorem dX6_swaps_39 : decode cX6_swaps 39 = .ok (.getfield 7, 3) := by decide +kernel
theorem dX6_swaps_42 : decode cX6_swaps 42 = .ok (.sipush 341, 3) := by decide +kernel
theorem dX6_swaps_45 : decode cX6_swaps 45 = .ok (.iload_n 1, 1) := by decide +kernel
theorem dX6_swaps_46 : decode cX6_swaps 46 = .ok (.imul, 1) := by decide +kernel
theorem dX6_swaps_47 : decode cX6_swaps 47 = .ok (.iload_n 3, 1) := by decide +kernel
theorem dX6_swaps_48 : decode cX6_swaps 48 = .ok (.iadd, 1) := by decide +kernel
theorem dX6_swaps_49 : decode cX6_swaps 49 = .ok (.iload 4, 2) := by decide +kernel
theorem dX6_swaps_51 : decode cX6_swaps 51 = .ok (.iastore, 1) := by decide +kernel
theorem dX6_swaps_52 : decode cX6_swaps 52 = .ok (.return_, 1) := by decide +kernel
theorem dX6_turn_0 : decode cX6_turn 0 = .ok (.aload_n 0, 1) := by decide +kernel
theorem dX6_turn_1 : decode cX6_turn 1 = .ok (.iconst 0, 1) := by decide +kernel
theorem dX6_turn_2 : decode cX6_turn 2 = .ok (.putfield 41, 3) := by decide +kernel
theorem dX6_turn_5 : decode cX6_turn 5 = .ok (.iload_n 1, 1) := by decide +kernel
theorem dX6_turn_6 : decode cX6_turn 6 = .ok (.invokestatic 104, 3) := by decide +kernel
theorem dX6_turn_9 : decode cX6_turn 9 = .ok (.ifCond .ne 5, 3) := by decide +kernel
theorem dX6_turn_12 : decode cX6_turn 12 = .ok (.iconst (-1), 1) := by decide +kernel
theorem dX6_turn_13 : decode cX6_turn 13 = .ok (.ireturn, 1) := by decide +kernel
theorem dX6_turn_14 : decode cX6_turn 14 = .ok (.aload_n 0, 1) := by decide +kernel
theorem dX6_turn_15 : decode cX6_turn 15 = .ok (.invokevirtual 112, 3) := by decide +kernel
theorem dX6_turn_18 : decode cX6_turn 18 = .ok (.iconst 0, 1) := by decide +kernel
theorem dX6_turn_19 : decode cX6_turn 19 = .ok (.istore_n 2, 1) := by decide +kernel
theorem dX6_turn_20 : decode cX6_turn 20 = .ok (.iload_n 2, 1) := by decide +kernel
theorem dX6_turn_21 : decode cX6_turn 21 = .ok (.iconst 4, 1) := by decide +kernel
theorem dX6_turn_22 : decode cX6_turn 22 = .ok (.if_icmp .ge 70, 3) := by decide +kernel
theorem dX6_turn_25 : decode cX6_turn 25 = .ok (.iconst 1, 1) := by decide +kernel
theorem dX6_turn_26 : decode cX6_turn 26 = .ok (.iload_n 2, 1) := by decide +kernel
theorem dX6_turn_27 : decode cX6_turn 27 = .ok (.ishl, 1) := by decide +kernel
theorem dX6_turn_28 : decode cX6_turn 28 = .ok (.istore_n 3, 1) := by decide +kernel
theorem dX6_turn_29 : decode cX6_turn 29 = .ok (.iconst 0, 1) := by decide +kernel
theorem dX6_turn_30 : decode cX6_turn 30 = .ok (.istore 4, 2) := by decide +kernel
theorem dX6_turn_32 : decode cX6_turn 32 = .ok (.iload 4, 2) := by decide +kernel
theorem dX6_turn_34 : decode cX6_turn 34 = .ok (.iload_n 3, 1) := by decide +kernel
theorem dX6_turn_35 : decode cX6_turn 35 = .ok (.iload_n 3, 1) := by decide +kernel
theorem dX6_turn_36 : decode cX6_turn 36 = .ok (.imul, 1) := by decide +kernel
theorem dX6_turn_37 : decode cX6_turn 37 = .ok (.if_icmp .ge 49, 3) := by decide +kernel
theorem dX6_turn_40 : decode cX6_turn 40 = .ok (.iload 4, 2) := by decide +kernel
theorem dX6_turn_42 : decode cX6_turn 42 = .ok (.iload_n 3, 1) := by decide +kernel
theorem dX6_turn_43 : decode cX6_turn 43 = .ok (.idiv, 1) := by decide +kernel
theorem dX6_turn_44 : decode cX6_turn 44 = .ok (.iload 4, 2) := by decide +kernel
theorem dX6_turn_46 : decode cX6_turn 46 = .ok (.iload_n 3, 1) := by decide +kernel
theorem dX6_turn_47 : decode cX6_turn 47 = .ok (.irem, 1) := by decide +kernel
theorem dX6_turn_48 : decode cX6_turn 48 = .ok (.if_icmp .ge 32, 3) := by decide +kernel
theorem dX6_turn_51 : decode cX6_turn 51 = .ok (.aload_n 0, 1) := by decide +kernel
theorem dX6_turn_52 : decode cX6_turn 52 = .ok (.iload_n 1, 1) := by decide +kernel
theorem dX6_turn_53 : decode cX6_turn 53 = .ok (.iload_n 2, 1) := by decide +kernel
theorem dX6_turn_54 : decode cX6_turn 54 = .ok (.iload 4, 2) := by decide +kernel
theorem dX6_turn_56 : decode cX6_turn 56 = .ok (.iload_n 3, 1) := by decide +kernel
theorem dX6_turn_57 : decode cX6_turn 57 = .ok (.idiv, 1) := by decide +kernel
theorem dX6_turn_58 : decode cX6_turn 58 = .ok (.iload 4, 2) := by decide +kernel
theorem dX6_turn_60 : decode cX6_turn 60 = .ok (.iload_n 3, 1) := by decide +kernel
theorem dX6_turn_61 : decode cX6_turn 61 = .ok (.irem, 1) := by decide +kernel
theorem dX6_turn_62 : decode cX6_turn 62 = .ok (.invokestatic 49, 3) := by decide +kernel
theorem dX6_turn_65 : decode cX6_turn 65 = .ok (.iload_n 2, 1) := by decide +kernel
theorem dX6_turn_66 : decode cX6_turn 66 = .ok (.iload 4, 2) := by decide +kernel
theorem dX6_turn_68 : decode cX6_turn 68 = .ok (.iload_n 3, 1) := by decide +kernel
theorem dX6_turn_69 : decode cX6_turn 69 = .ok (.irem, 1) := by decide +kernel
theorem dX6_turn_70 : decode cX6_turn 70 = .ok (.iload 4, 2) := by decide +kernel
theorem dX6_turn_72 : decode cX6_turn 72 = .ok (.iload_n 3, 1) := by decide +kernel
theorem dX6_turn_73 : decode cX6_turn 73 = .ok (.idiv, 1) := by decide +kernel
theorem dX6_turn_74 : decode cX6_turn 74 = .ok (.invokestatic 49, 3) := by decide +kernel
theorem dX6_turn_77 : decode cX6_turn 77 = .ok (.invokevirtual 144, 3) := by decide +kernel
theorem dX6_turn_80 : decode cX6_turn 80 = .ok (.iinc 4 1, 3) := by decide +kernel
theorem dX6_turn_83 : decode cX6_turn 83 = .ok (.goto (-51), 3) := by decide +kernel
theorem dX6_turn_86 : decode cX6_turn 86 = .ok (.iinc 2 1, 3) := by decide +kernel
theorem dX6_turn_89 : decode cX6_turn 89 = .ok (.goto (-69), 3) := by decide +kernel
theorem dX6_turn_92 : decode cX6_turn 92 = .ok (.iconst 0, 1) := by decide +kernel
theorem dX6_turn_93 : decode cX6_turn 93 = .ok (.istore_n 2, 1) := by decide +kernel
theorem dX6_turn_94 : decode cX6_turn 94 = .ok (.iload_n 2, 1) := by decide +kernel
theorem dX6_turn_95 : decode cX6_turn 95 = .ok (.sipush 256, 3) := by decide +kernel
theorem dX6_turn_98 : decode cX6_turn 98 = .ok (.if_icmp .ge 44, 3) := by decide +kernel
theorem dX6_turn_101 : decode cX6_turn 101 = .ok (.iload_n 2, 1) := by decide +kernel
theorem dX6_turn_102 : decode cX6_turn 102 = .ok (.bipush 16, 2) := by decide +kernel
theorem dX6_turn_104 : decode cX6_turn 104 = .ok (.idiv, 1) := by decide +kernel
theorem dX6_turn_105 : decode cX6_turn 105 = .ok (.iload_n 2, 1) := by decide +kernel
theorem dX6_turn_106 : decode cX6_turn 106 = .ok (.bipush 16, 2) := by decide +kernel
theorem dX6_turn_108 : decode cX6_turn 108 = .ok (.irem, 1) := by decide +kernel
theorem dX6_turn_109 : decode cX6_turn 109 = .ok (.if_icmp .ge 27, 3) := by decide +kernel
theorem dX6_turn_112 : decode cX6_turn 112 = .ok (.aload_n 0, 1) := by decide +kernel
theorem dX6_turn_113 : decode cX6_turn 113 = .ok (.iload_n 1, 1) := by decide +kernel
theorem dX6_turn_114 : decode cX6_turn 114 = .ok (.bipush 85, 2) := by decide +kernel
theorem dX6_turn_116 : decode cX6_turn 116 = .ok (.iload_n 2, 1) := by decide +kernel
theorem dX6_turn_117 : decode cX6_turn 117 = .ok (.iadd, 1) := by decide +kernel
theorem dX6_turn_118 : decode cX6_turn 118 = .ok (.bipush 85, 2) := by decide +kernel
theorem dX6_turn_120 : decode cX6_turn 120 = .ok (.bipush 16, 2) := by decide +kernel
theorem dX6_turn_122 : decode cX6_turn 122 = .ok (.iload_n 2, 1) := by decide +kernel
theorem dX6_turn_123 : decode cX6_turn 123 = .ok (.bipush 16, 2) := by decide +kernel
theorem dX6_turn_125 : decode cX6_turn 125 = .ok (.irem, 1) := by decide +kernel
theorem dX6_turn_126 : decode cX6_turn 126 = .ok (.imul, 1) := by decide +kernel
theorem dX6_turn_127 : decode cX6_turn 127 = .ok (.iadd, 1) := by decide +kernel
theorem dX6_turn_128 : decode cX6_turn 128 = .ok (.iload_n 2, 1) := by decide +kernel
theorem dX6_turn_129 : decode cX6_turn 129 = .ok (.bipush 16, 2) := by decide +kernel
theorem dX6_turn_131 : decode cX6_turn 131 = .ok (.idiv, 1) := by decide +kernel
theorem dX6_turn_132 : decode cX6_turn 132 = .ok (.iadd, 1) := by decide +kernel
theorem dX6_turn_133 : decode cX6_turn 133 = .ok (.invokevirtual 144, 3) := by decide +kernel
theorem dX6_turn_136 : decode cX6_turn 136 = .ok (.iinc 2 1, 3) := by decide +kernel
theorem dX6_turn_139 : decode cX6_turn 139 = .ok (.goto (-45), 3) := by decide +kernel
theorem dX6_turn_142 : decode cX6_turn 142 = .ok (.aload_n 0, 1) := by decide +kernel
theorem dX6_turn_143 : decode cX6_turn 143 = .ok (.iload_n 1, 1) := by decide +kernel
theorem dX6_turn_144 : decode cX6_turn 144 = .ok (.invokevirtual 148, 3) := by decide +kernel
theorem dX6_turn_147 : decode cX6_turn 147 = .ok (.ldc 151, 2) := by decide +kernel
theorem dX6_turn_149 : decode cX6_turn 149 = .ok (.iadd, 1) := by decide +kernel
theorem dX6_turn_150 : decode cX6_turn 150 = .ok (.ireturn, 1) := by decide +kernel
theorem dX6_copy_0 : decode cX6_copy 0 = .ok (.aload_n 0, 1) := by decide +kernel
theorem dX6_copy_1 : decode cX6_copy 1 = .ok (.iconst 0, 1) := by decide +kernel
theorem dX6_copy_2 : decode cX6_copy 2 = .ok (.putfield 41, 3) := by decide +kernel
theorem dX6_copy_5 : decode cX6_copy 5 = .ok (.iload_n 1, 1) := by decide +kernel
theorem dX6_copy_6 : decode cX6_copy 6 = .ok (.invokestatic 104, 3) := by decide +kernel
theorem dX6_copy_9 : decode cX6_copy 9 = .ok (.ifCond .eq 10, 3) := by decide +kernel
theorem dX6_copy_12 : decode cX6_copy 12 = .ok (.iload_n 2, 1) := by decide +kernel
theorem dX6_copy_13 : decode cX6_copy 13 = .ok (.invokestatic 104, 3) := by decide +kernel
theorem dX6_copy_16 : decode cX6_copy 16 = .ok (.ifCond .ne 5, 3) := by decide +kernel
theorem dX6_copy_19 : decode cX6_copy 19 = .ok (.iconst (-1), 1) := by decide +kernel
theorem dX6_copy_20 : decode cX6_copy 20 = .ok (.ireturn, 1) := by decide +kernel
theorem dX6_copy_21 : decode cX6_copy 21 = .ok (.iload_n 1, 1) := by decide +kernel
theorem dX6_copy_22 : decode cX6_copy 22 = .ok (.iload_n 2, 1) := by decide +kernel
theorem dX6_copy_23 : decode cX6_copy 23 = .ok (.if_icmp .ne 6, 3) := by decide +kernel
theorem dX6_copy_26 : decode cX6_copy 26 = .ok (.bipush (-2), 2) := by decide +kernel
theorem dX6_copy_28 : decode cX6_copy 28 = .ok (.ireturn, 1) := by decide +kernel
theorem dX6_copy_29 : decode cX6_copy 29 = .ok (.aload_n 0, 1) := by decide +kernel
theorem dX6_copy_30 : decode cX6_copy 30 = .ok (.invokevirtual 112, 3) := by decide +kernel
theorem dX6_copy_33 : decode cX6_copy 33 = .ok (.iconst 0, 1) := by decide +kernel
theorem dX6_copy_34 : decode cX6_copy 34 = .ok (.istore_n 3, 1) := by decide +kernel
theorem dX6_copy_35 : decode cX6_copy 35 = .ok (.iload_n 3, 1) := by decide +kernel
theorem dX6_copy_36 : decode cX6_copy 36 = .ok (.sipush 341, 3) := by decide +kernel
theorem dX6_copy_39 : decode cX6_copy 39 = .ok (.if_icmp .ge 33, 3) := by decide +kernel
theorem dX6_copy_42 : decode cX6_copy 42 = .ok (.aload_n 0, 1) := by decide +kernel
theorem dX6_copy_43 : decode cX6_copy 43 = .ok (.getfield 7, 3) := by decide +kernel
theorem dX6_copy_46 : decode cX6_copy 46 = .ok (.sipush 341, 3) := by decide +kernel
theorem dX6_copy_49 : decode cX6_copy 49 = .ok (.iload_n 1, 1) := by decide +kernel
theorem dX6_copy_50 : decode cX6_copy 50 = .ok (.imul, 1) := by decide +kernel
theorem dX6_copy_51 : decode cX6_copy 51 = .ok (.iload_n 3, 1) := by decide +kernel
theorem dX6_copy_52 : decode cX6_copy 52 = .ok (.iadd, 1) := by decide +kernel
theorem dX6_copy_53 : decode cX6_copy 53 = .ok (.aload_n 0, 1) := by decide +kernel
theorem dX6_copy_54 : decode cX6_copy 54 = .ok (.getfield 7, 3) := by decide +kernel
theorem dX6_copy_57 : decode cX6_copy 57 = .ok (.sipush 341, 3) := by decide +kernel
theorem dX6_copy_60 : decode cX6_copy 60 = .ok (.iload_n 2, 1) := by decide +kernel
theorem dX6_copy_61 : decode cX6_copy 61 = .ok (.imul, 1) := by decide +kernel
theorem dX6_copy_62 : decode cX6_copy 62 = .ok (.iload_n 3, 1) := by decide +kernel
theorem dX6_copy_63 : decode cX6_copy 63 = .ok (.iadd, 1) := by decide +kernel
theorem dX6_copy_64 : decode cX6_copy 64 = .ok (.iaload, 1) := by decide +kernel
theorem dX6_copy_65 : decode cX6_copy 65 = .ok (.iastore, 1) := by decide +kernel
theorem dX6_copy_66 : decode cX6_copy 66 = .ok (.iinc 3 1, 3) := by decide +kernel
theorem dX6_copy_69 : decode cX6_copy 69 = .ok (.goto (-34), 3) := by decide +kernel
theorem dX6_copy_72 : decode cX6_copy 72 = .ok (.aload_n 0, 1) := by decide +kernel
theorem dX6_copy_73 : decode cX6_copy 73 = .ok (.iload_n 1, 1) := by decide +kernel
theorem dX6_copy_74 : decode cX6_copy 74 = .ok (.invokevirtual 78, 3) := by decide +kernel
theorem dX6_copy_77 : decode cX6_copy 77 = .ok (.ireturn, 1) := by decide +kernel
theorem dX6_clear_0 : decode cX6_clear 0 = .ok (.aload_n 0, 1) := by decide +kernel
theorem dX6_clear_1 : decode cX6_clear 1 = .ok (.iconst 0, 1) := by decide +kernel
theorem dX6_clear_2 : decode cX6_clear 2 = .ok (.putfield 41, 3) := by decide +kernel
theorem dX6_clear_5 : decode cX6_clear 5 = .ok (.iload_n 1, 1) := by decide +kernel
theorem dX6_clear_6 : decode cX6_clear 6 = .ok (.invokestatic 104, 3) := by decide +kernel
theorem dX6_clear_9 : decode cX6_clear 9 = .ok (.ifCond .eq 11, 3) := by decide +kernel
theorem dX6_clear_12 : decode cX6_clear 12 = .ok (.iload_n 2, 1) := by decide +kernel
theorem dX6_clear_13 : decode cX6_clear 13 = .ok (.iload_n 3, 1) := by decide +kernel
theorem dX6_clear_14 : decode cX6_clear 14 = .ok (.invokestatic 118, 3) := by decide +kernel
theorem dX6_clear_17 : decode cX6_clear 17 = .ok (.ifCond .ne 5, 3) := by decide +kernel
theorem dX6_clear_20 : decode cX6_clear 20 = .ok (.iconst (-1), 1) := by decide +kernel
theorem dX6_clear_21 : decode cX6_clear 21 = .ok (.ireturn, 1) := by decide +kernel
theorem dX6_clear_22 : decode cX6_clear 22 = .ok (.aload_n 0, 1) := by decide +kernel
theorem dX6_clear_23 : decode cX6_clear 23 = .ok (.invokevirtual 112, 3) := by decide +kernel
theorem dX6_clear_26 : decode cX6_clear 26 = .ok (.aload_n 0, 1) := by decide +kernel
theorem dX6_clear_27 : decode cX6_clear 27 = .ok (.iload_n 1, 1) := by decide +kernel
theorem dX6_clear_28 : decode cX6_clear 28 = .ok (.iload_n 2, 1) := by decide +kernel
theorem dX6_clear_29 : decode cX6_clear 29 = .ok (.iload_n 3, 1) := by decide +kernel
theorem dX6_clear_30 : decode cX6_clear 30 = .ok (.invokevirtual 152, 3) := by decide +kernel
theorem dX6_clear_33 : decode cX6_clear 33 = .ok (.istore 4, 2) := by decide +kernel
theorem dX6_clear_35 : decode cX6_clear 35 = .ok (.iload 4, 2) := by decide +kernel
theorem dX6_clear_37 : decode cX6_clear 37 = .ok (.invokestatic 67, 3) := by decide +kernel
theorem dX6_clear_40 : decode cX6_clear 40 = .ok (.istore 5, 2) := by decide +kernel
theorem dX6_clear_42 : decode cX6_clear 42 = .ok (.aload_n 0, 1) := by decide +kernel
theorem dX6_clear_43 : decode cX6_clear 43 = .ok (.iload_n 1, 1) := by decide +kernel
theorem dX6_clear_44 : decode cX6_clear 44 = .ok (.iload 4, 2) := by decide +kernel
theorem dX6_clear_46 : decode cX6_clear 46 = .ok (.iload_n 2, 1) := by decide +kernel
theorem dX6_clear_47 : decode cX6_clear 47 = .ok (.iload 5, 2) := by decide +kernel
theorem dX6_clear_49 : decode cX6_clear 49 = .ok (.idiv, 1) := by decide +kernel
theorem dX6_clear_50 : decode cX6_clear 50 = .ok (.iload_n 3, 1) := by decide +kernel
theorem dX6_clear_51 : decode cX6_clear 51 = .ok (.iload 5, 2) := by decide +kernel
theorem dX6_clear_53 : decode cX6_clear 53 = .ok (.idiv, 1) := by decide +kernel
theorem dX6_clear_54 : decode cX6_clear 54 = .ok (.iconst 0, 1) := by decide +kernel
theorem dX6_clear_55 : decode cX6_clear 55 = .ok (.invokevirtual 96, 3) := by decide +kernel
theorem dX6_clear_58 : decode cX6_clear 58 = .ok (.iconst 0, 1) := by decide +kernel
theorem dX6_clear_59 : decode cX6_clear 59 = .ok (.istore 6, 2) := by decide +kernel
theorem dX6_clear_61 : decode cX6_clear 61 = .ok (.iload 6, 2) := by decide +kernel
theorem dX6_clear_63 : decode cX6_clear 63 = .ok (.iload 5, 2) := by decide +kernel
theorem dX6_clear_65 : decode cX6_clear 65 = .ok (.iload 5, 2) := by decide +kernel
theorem dX6_clear_67 : decode cX6_clear 67 = .ok (.imul, 1) := by decide +kernel
theorem dX6_clear_68 : decode cX6_clear 68 = .ok (.if_icmp .ge 41, 3) := by decide +kernel
theorem dX6_clear_71 : decode cX6_clear 71 = .ok (.aload_n 0, 1) := by decide +kernel
theorem dX6_clear_72 : decode cX6_clear 72 = .ok (.iload_n 1, 1) := by decide +kernel
theorem dX6_clear_73 : decode cX6_clear 73 = .ok (.iload_n 2, 1) := by decide +kernel
theorem dX6_clear_74 : decode cX6_clear 74 = .ok (.iload 5, 2) := by decide +kernel
theorem dX6_clear_76 : decode cX6_clear 76 = .ok (.idiv, 1) := by decide +kernel
theorem dX6_clear_77 : decode cX6_clear 77 = .ok (.iload 5, 2) := by decide +kernel
theorem dX6_clear_79 : decode cX6_clear 79 = .ok (.imul, 1) := by decide +kernel
theorem dX6_clear_80 : decode cX6_clear 80 = .ok (.iload 6, 2) := by decide +kernel
theorem dX6_clear_82 : decode cX6_clear 82 = .ok (.iload 5, 2) := by decide +kernel
theorem dX6_clear_84 : decode cX6_clear 84 = .ok (.idiv, 1) := by decide +kernel
theorem dX6_clear_85 : decode cX6_clear 85 = .ok (.iadd, 1) := by decide +kernel
theorem dX6_clear_86 : decode cX6_clear 86 = .ok (.iload_n 3, 1) := by decide +kernel
theorem dX6_clear_87 : decode cX6_clear 87 = .ok (.iload 5, 2) := by decide +kernel
theorem dX6_clear_89 : decode cX6_clear 89 = .ok (.idiv, 1) := by decide +kernel
theorem dX6_clear_90 : decode cX6_clear 90 = .ok (.iload 5, 2) := by decide +kernel
theorem dX6_clear_92 : decode cX6_clear 92 = .ok (.imul, 1) := by decide +kernel
theorem dX6_clear_93 : decode cX6_clear 93 = .ok (.iload 6, 2) := by decide +kernel
theorem dX6_clear_95 : decode cX6_clear 95 = .ok (.iload 5, 2) := by decide +kernel
theorem dX6_clear_97 : decode cX6_clear 97 = .ok (.irem, 1) := by decide +kernel
theorem dX6_clear_98 : decode cX6_clear 98 = .ok (.iadd, 1) := by decide +kernel
theorem dX6_clear_99 : decode cX6_clear 99 = .ok (.iconst 0, 1) := by decide +kernel
theorem dX6_clear_100 : decode cX6_clear 100 = .ok (.invokevirtual 127, 3) := by decide +kernel
theorem dX6_clear_103 : decode cX6_clear 103 = .ok (.iinc 6 1, 3) := by decide +kernel
theorem dX6_clear_106 : decode cX6_clear 106 = .ok (.goto (-45), 3) := by decide +kernel
theorem dX6_clear_109 : decode cX6_clear 109 = .ok (.iload 5, 2) := by decide +kernel
theorem dX6_clear_111 : decode cX6_clear 111 = .ok (.ireturn, 1) := by decide +kernel
theorem dX6_at_0 : decode cX6_at 0 = .ok (.aload_n 0, 1) := by decide +kernel
theorem dX6_at_1 : decode cX6_at 1 = .ok (.iconst 0, 1) := by decide +kernel
theorem dX6_at_2 : decode cX6_at 2 = .ok (.putfield 41, 3) := by decide +kernel
theorem dX6_at_5 : decode cX6_at 5 = .ok (.iload_n 1, 1) := by decide +kernel
theorem dX6_at_6 : decode cX6_at 6 = .ok (.invokestatic 104, 3) := by decide +kernel
theorem dX6_at_9 : decode cX6_at 9 = .ok (.ifCond .eq 24, 3) := by decide +kernel
theorem dX6_at_12 : decode cX6_at 12 = .ok (.iload_n 2, 1) := by decide +kernel
theorem dX6_at_13 : decode cX6_at 13 = .ok (.iload_n 3, 1) := by decide +kernel
theorem dX6_at_14 : decode cX6_at 14 = .ok (.invokestatic 118, 3) := by decide +kernel
theorem dX6_at_17 : decode cX6_at 17 = .ok (.ifCond .eq 16, 3) := by decide +kernel
theorem dX6_at_20 : decode cX6_at 20 = .ok (.aload_n 0, 1) := by decide +kernel
theorem dX6_at_21 : decode cX6_at 21 = .ok (.iload_n 1, 1) := by decide +kernel
theorem dX6_at_22 : decode cX6_at 22 = .ok (.iload_n 2, 1) := by decide +kernel
theorem dX6_at_23 : decode cX6_at 23 = .ok (.iload_n 3, 1) := by decide +kernel
theorem dX6_at_24 : decode cX6_at 24 = .ok (.invokevirtual 81, 3) := by decide +kernel
theorem dX6_at_27 : decode cX6_at 27 = .ok (.ldc 123, 2) := by decide +kernel
theorem dX6_at_29 : decode cX6_at 29 = .ok (.iadd, 1) := by decide +kernel
theorem dX6_at_30 : decode cX6_at 30 = .ok (.goto 4, 3) := by decide +kernel
theorem dX6_at_33 : decode cX6_at 33 = .ok (.iconst (-1), 1) := by decide +kernel
theorem dX6_at_34 : decode cX6_at 34 = .ok (.ireturn, 1) := by decide +kernel
theorem dX6_block_0 : decode cX6_block 0 = .ok (.aload_n 0, 1) := by decide +kernel
theorem dX6_block_1 : decode cX6_block 1 = .ok (.iconst 0, 1) := by decide +kernel
theorem dX6_block_2 : decode cX6_block 2 = .ok (.putfield 41, 3) := by decide +kernel
theorem dX6_block_5 : decode cX6_block 5 = .ok (.iload_n 1, 1) := by decide +kernel
theorem dX6_block_6 : decode cX6_block 6 = .ok (.invokestatic 104, 3) := by decide +kernel
theorem dX6_block_9 : decode cX6_block 9 = .ok (.ifCond .eq 11, 3) := by decide +kernel
theorem dX6_block_12 : decode cX6_block 12 = .ok (.iload_n 2, 1) := by decide +kernel
theorem dX6_block_13 : decode cX6_block 13 = .ok (.iload_n 3, 1) := by decide +kernel
theorem dX6_block_14 : decode cX6_block 14 = .ok (.invokestatic 118, 3) := by decide +kernel
theorem dX6_block_17 : decode cX6_block 17 = .ok (.ifCond .ne 5, 3) := by decide +kernel
theorem dX6_block_20 : decode cX6_block 20 = .ok (.iconst (-1), 1) := by decide +kernel
theorem dX6_block_21 : decode cX6_block 21 = .ok (.ireturn, 1) := by decide +kernel
theorem dX6_block_22 : decode cX6_block 22 = .ok (.aload_n 0, 1) := by decide +kernel
theorem dX6_block_23 : decode cX6_block 23 = .ok (.iload_n 1, 1) := by decide +kernel
theorem dX6_block_24 : decode cX6_block 24 = .ok (.iload_n 2, 1) := by decide +kernel
theorem dX6_block_25 : decode cX6_block 25 = .ok (.iload_n 3, 1) := by decide +kernel
theorem dX6_block_26 : decode cX6_block 26 = .ok (.invokevirtual 152, 3) := by decide +kernel
theorem dX6_block_29 : decode cX6_block 29 = .ok (.istore 5, 2) := by decide +kernel
theorem dX6_block_31 : decode cX6_block 31 = .ok (.iload 5, 2) := by decide +kernel
theorem dX6_block_33 : decode cX6_block 33 = .ok (.invokestatic 67, 3) := by decide +kernel
theorem dX6_block_36 : decode cX6_block 36 = .ok (.istore 6, 2) := by decide +kernel
theorem dX6_block_38 : decode cX6_block 38 = .ok (.aload_n 0, 1) := by decide +kernel
theorem dX6_block_39 : decode cX6_block 39 = .ok (.iload_n 1, 1) := by decide +kernel
theorem dX6_block_40 : decode cX6_block 40 = .ok (.iload 5, 2) := by decide +kernel
theorem dX6_block_42 : decode cX6_block 42 = .ok (.iload_n 2, 1) := by decide +kernel
theorem dX6_block_43 : decode cX6_block 43 = .ok (.iload 6, 2) := by decide +kernel
theorem dX6_block_45 : decode cX6_block 45 = .ok (.idiv, 1) := by decide +kernel
theorem dX6_block_46 : decode cX6_block 46 = .ok (.iload_n 3, 1) := by decide +kernel
theorem dX6_block_47 : decode cX6_block 47 = .ok (.iload 6, 2) := by decide +kernel
theorem dX6_block_49 : decode cX6_block 49 = .ok (.idiv, 1) := by decide +kernel
theorem dX6_block_50 : decode cX6_block 50 = .ok (.invokevirtual 59, 3) := by decide +kernel
theorem dX6_block_53 : decode cX6_block 53 = .ok (.istore 7, 2) := by decide +kernel
theorem dX6_block_55 : decode cX6_block 55 = .ok (.iload 4, 2) := by decide +kernel
theorem dX6_block_57 : decode cX6_block 57 = .ok (.tableswitch 72 0 5 #[39, 42, 45, 53, 61, 69], 39) := by decide +kernel
theorem dX6_block_96 : decode cX6_block 96 = .ok (.iload 7, 2) := by decide +kernel
theorem dX6_block_98 : decode cX6_block 98 = .ok (.ireturn, 1) := by decide +kernel
theorem dX6_block_99 : decode cX6_block 99 = .ok (.iload 6, 2) := by decide +kernel
theorem dX6_block_101 : decode cX6_block 101 = .ok (.ireturn, 1) := by decide +kernel
theorem dX6_block_102 : decode cX6_block 102 = .ok (.iload_n 2, 1) := by decide +kernel
theorem dX6_block_103 : decode cX6_block 103 = .ok (.iload 6, 2) := by decide +kernel
theorem dX6_block_105 : decode cX6_block 105 = .ok (.idiv, 1) := by decide +kernel
theorem dX6_block_106 : decode cX6_block 106 = .ok (.iload 6, 2) := by decide +kernel
theorem dX6_block_108 : decode cX6_block 108 = .ok (.imul, 1) := by decide +kernel
theorem dX6_block_109 : decode cX6_block 109 = .ok (.ireturn, 1) := by decide +kernel
theorem dX6_block_110 : decode cX6_block 110 = .ok (.iload_n 3, 1) := by decide +kernel
theorem dX6_block_111 : decode cX6_block 111 = .ok (.iload 6, 2) := by decide +kernel
theorem dX6_block_113 : decode cX6_block 113 = .ok (.idiv, 1) := by decide +kernel
theorem dX6_block_114 : decode cX6_block 114 = .ok (.iload 6, 2) := by decide +kernel
theorem dX6_block_116 : decode cX6_block 116 = .ok (.imul, 1) := by decide +kernel
theorem dX6_block_117 : decode cX6_block 117 = .ok (.ireturn, 1) := by decide +kernel
theorem dX6_block_118 : decode cX6_block 118 = .ok (.iload 7, 2) := by decide +kernel
theorem dX6_block_120 : decode cX6_block 120 = .ok (.iload 6, 2) := by decide +kernel
theorem dX6_block_122 : decode cX6_block 122 = .ok (.invokestatic 71, 3) := by decide +kernel
theorem dX6_block_125 : decode cX6_block 125 = .ok (.ireturn, 1) := by decide +kernel
theorem dX6_block_126 : decode cX6_block 126 = .ok (.iload 5, 2) := by decide +kernel
theorem dX6_block_128 : decode cX6_block 128 = .ok (.ireturn, 1) := by decide +kernel
theorem dX6_block_129 : decode cX6_block 129 = .ok (.bipush (-2), 2) := by decide +kernel
theorem dX6_block_131 : decode cX6_block 131 = .ok (.ireturn, 1) := by decide +kernel
theorem dX6_overBlocks_0 : decode cX6_overBlocks 0 = .ok (.iconst 0, 1) := by decide +kernel
theorem dX6_overBlocks_1 : decode cX6_overBlocks 1 = .ok (.istore_n 3, 1) := by decide +kernel
theorem dX6_overBlocks_2 : decode cX6_overBlocks 2 = .ok (.iconst 0, 1) := by decide +kernel
theorem dX6_overBlocks_3 : decode cX6_overBlocks 3 = .ok (.istore 4, 2) := by decide +kernel
theorem dX6_overBlocks_5 : decode cX6_overBlocks 5 = .ok (.iload 4, 2) := by decide +kernel
theorem dX6_overBlocks_7 : decode cX6_overBlocks 7 = .ok (.iconst 4, 1) := by decide +kernel
theorem dX6_overBlocks_8 : decode cX6_overBlocks 8 = .ok (.if_icmp .ge 108, 3) := by decide +kernel
theorem dX6_overBlocks_11 : decode cX6_overBlocks 11 = .ok (.iconst 1, 1) := by decide +kernel
theorem dX6_overBlocks_12 : decode cX6_overBlocks 12 = .ok (.iload 4, 2) := by decide +kernel
theorem dX6_overBlocks_14 : decode cX6_overBlocks 14 = .ok (.ishl, 1) := by decide +kernel
theorem dX6_overBlocks_15 : decode cX6_overBlocks 15 = .ok (.istore 5, 2) := by decide +kernel
theorem dX6_overBlocks_17 : decode cX6_overBlocks 17 = .ok (.iconst 0, 1) := by decide +kernel
theorem dX6_overBlocks_18 : decode cX6_overBlocks 18 = .ok (.istore 6, 2) := by decide +kernel
theorem dX6_overBlocks_20 : decode cX6_overBlocks 20 = .ok (.iload 6, 2) := by decide +kernel
theorem dX6_overBlocks_22 : decode cX6_overBlocks 22 = .ok (.iload 5, 2) := by decide +kernel
theorem dX6_overBlocks_24 : decode cX6_overBlocks 24 = .ok (.iload 5, 2) := by decide +kernel
theorem dX6_overBlocks_26 : decode cX6_overBlocks 26 = .ok (.imul, 1) := by decide +kernel
theorem dX6_overBlocks_27 : decode cX6_overBlocks 27 = .ok (.if_icmp .ge 83, 3) := by decide +kernel
theorem dX6_overBlocks_30 : decode cX6_overBlocks 30 = .ok (.aload_n 0, 1) := by decide +kernel
theorem dX6_overBlocks_31 : decode cX6_overBlocks 31 = .ok (.iload_n 1, 1) := by decide +kernel
theorem dX6_overBlocks_32 : decode cX6_overBlocks 32 = .ok (.iload 4, 2) := by decide +kernel
theorem dX6_overBlocks_34 : decode cX6_overBlocks 34 = .ok (.iload 6, 2) := by decide +kernel
theorem dX6_overBlocks_36 : decode cX6_overBlocks 36 = .ok (.iload 5, 2) := by decide +kernel
theorem dX6_overBlocks_38 : decode cX6_overBlocks 38 = .ok (.idiv, 1) := by decide +kernel
theorem dX6_overBlocks_39 : decode cX6_overBlocks 39 = .ok (.iload 6, 2) := by decide +kernel
theorem dX6_overBlocks_41 : decode cX6_overBlocks 41 = .ok (.iload 5, 2) := by decide +kernel
theorem dX6_overBlocks_43 : decode cX6_overBlocks 43 = .ok (.irem, 1) := by decide +kernel
theorem dX6_overBlocks_44 : decode cX6_overBlocks 44 = .ok (.invokevirtual 63, 3) := by decide +kernel
theorem dX6_overBlocks_47 : decode cX6_overBlocks 47 = .ok (.istore 7, 2) := by decide +kernel
theorem dX6_overBlocks_49 : decode cX6_overBlocks 49 = .ok (.iload_n 2, 1) := by decide +kernel
theorem dX6_overBlocks_50 : decode cX6_overBlocks 50 = .ok (.iconst 1, 1) := by decide +kernel
theorem dX6_overBlocks_51 : decode cX6_overBlocks 51 = .ok (.if_icmp .ne 17, 3) := by decide +kernel
theorem dX6_overBlocks_54 : decode cX6_overBlocks 54 = .ok (.iload 7, 2) := by decide +kernel
theorem dX6_overBlocks_56 : decode cX6_overBlocks 56 = .ok (.ifCond .eq 8, 3) := by decide +kernel
theorem dX6_overBlocks_59 : decode cX6_overBlocks 59 = .ok (.iload 4, 2) := by decide +kernel
theorem dX6_overBlocks_61 : decode cX6_overBlocks 61 = .ok (.goto 42, 3) := by decide +kernel
theorem dX6_overBlocks_64 : decode cX6_overBlocks 64 = .ok (.iload_n 3, 1) := by decide +kernel
theorem dX6_overBlocks_65 : decode cX6_overBlocks 65 = .ok (.goto 38, 3) := by decide +kernel
theorem dX6_overBlocks_68 : decode cX6_overBlocks 68 = .ok (.iload_n 3, 1) := by decide +kernel
theorem dX6_overBlocks_69 : decode cX6_overBlocks 69 = .ok (.iload 7, 2) := by decide +kernel
theorem dX6_overBlocks_71 : decode cX6_overBlocks 71 = .ok (.ifCond .eq 30, 3) := by decide +kernel
theorem dX6_overBlocks_74 : decode cX6_overBlocks 74 = .ok (.aload_n 0, 1) := by decide +kernel
theorem dX6_overBlocks_75 : decode cX6_overBlocks 75 = .ok (.iload_n 1, 1) := by decide +kernel
theorem dX6_overBlocks_76 : decode cX6_overBlocks 76 = .ok (.iload 4, 2) := by decide +kernel
theorem dX6_overBlocks_78 : decode cX6_overBlocks 78 = .ok (.iload 6, 2) := by decide +kernel
theorem dX6_overBlocks_80 : decode cX6_overBlocks 80 = .ok (.iload 5, 2) := by decide +kernel
theorem dX6_overBlocks_82 : decode cX6_overBlocks 82 = .ok (.idiv, 1) := by decide +kernel
theorem dX6_overBlocks_83 : decode cX6_overBlocks 83 = .ok (.iload 6, 2) := by decide +kernel
theorem dX6_overBlocks_85 : decode cX6_overBlocks 85 = .ok (.iload 5, 2) := by decide +kernel
theorem dX6_overBlocks_87 : decode cX6_overBlocks 87 = .ok (.irem, 1) := by decide +kernel
theorem dX6_overBlocks_88 : decode cX6_overBlocks 88 = .ok (.invokevirtual 59, 3) := by decide +kernel
theorem dX6_overBlocks_91 : decode cX6_overBlocks 91 = .ok (.iload_n 2, 1) := by decide +kernel
theorem dX6_overBlocks_92 : decode cX6_overBlocks 92 = .ok (.iconst 2, 1) := by decide +kernel
theorem dX6_overBlocks_93 : decode cX6_overBlocks 93 = .ok (.isub, 1) := by decide +kernel
theorem dX6_overBlocks_94 : decode cX6_overBlocks 94 = .ok (.if_icmp .ne 7, 3) := by decide +kernel
theorem dX6_overBlocks_97 : decode cX6_overBlocks 97 = .ok (.iconst 1, 1) := by decide +kernel
theorem dX6_overBlocks_98 : decode cX6_overBlocks 98 = .ok (.goto 4, 3) := by decide +kernel
theorem dX6_overBlocks_101 : decode cX6_overBlocks 101 = .ok (.iconst 0, 1) := by decide +kernel
theorem dX6_overBlocks_102 : decode cX6_overBlocks 102 = .ok (.iadd, 1) := by decide +kernel
theorem dX6_overBlocks_103 : decode cX6_overBlocks 103 = .ok (.istore_n 3, 1) := by decide +kernel
theorem dX6_overBlocks_104 : decode cX6_overBlocks 104 = .ok (.iinc 6 1, 3) := by decide +kernel
theorem dX6_overBlocks_107 : decode cX6_overBlocks 107 = .ok (.goto (-87), 3) := by decide +kernel
theorem dX6_overBlocks_110 : decode cX6_overBlocks 110 = .ok (.iinc 4 1, 3) := by decide +kernel
theorem dX6_overBlocks_113 : decode cX6_overBlocks 113 = .ok (.goto (-108), 3) := by decide +kernel
theorem dX6_overBlocks_116 : decode cX6_overBlocks 116 = .ok (.iload_n 3, 1) := by decide +kernel
theorem dX6_overBlocks_117 : decode cX6_overBlocks 117 = .ok (.ireturn, 1) := by decide +kernel
theorem dX6_overEntries_0 : decode cX6_overEntries 0 = .ok (.iconst 0, 1) := by decide +kernel
theorem dX6_overEntries_1 : decode cX6_overEntries 1 = .ok (.istore_n 3, 1) := by decide +kernel
theorem dX6_overEntries_2 : decode cX6_overEntries 2 = .ok (.ldc 122, 2) := by decide +kernel
theorem dX6_overEntries_4 : decode cX6_overEntries 4 = .ok (.istore 4, 2) := by decide +kernel
theorem dX6_overEntries_6 : decode cX6_overEntries 6 = .ok (.ldc 123, 2) := by decide +kernel
theorem dX6_overEntries_8 : decode cX6_overEntries 8 = .ok (.istore 5, 2) := by decide +kernel
theorem dX6_overEntries_10 : decode cX6_overEntries 10 = .ok (.iconst 1, 1) := by decide +kernel
theorem dX6_overEntries_11 : decode cX6_overEntries 11 = .ok (.istore 6, 2) := by decide +kernel
theorem dX6_overEntries_13 : decode cX6_overEntries 13 = .ok (.iconst 0, 1) := by decide +kernel
theorem dX6_overEntries_14 : decode cX6_overEntries 14 = .ok (.istore 7, 2) := by decide +kernel
theorem dX6_overEntries_16 : decode cX6_overEntries 16 = .ok (.iload 7, 2) := by decide +kernel
theorem dX6_overEntries_18 : decode cX6_overEntries 18 = .ok (.sipush 256, 3) := by decide +kernel
theorem dX6_overEntries_21 : decode cX6_overEntries 21 = .ok (.if_icmp .ge 103, 3) := by decide +kernel
theorem dX6_overEntries_24 : decode cX6_overEntries 24 = .ok (.aload_n 0, 1) := by decide +kernel
theorem dX6_overEntries_25 : decode cX6_overEntries 25 = .ok (.iload_n 1, 1) := by decide +kernel
theorem dX6_overEntries_26 : decode cX6_overEntries 26 = .ok (.iload 7, 2) := by decide +kernel
theorem dX6_overEntries_28 : decode cX6_overEntries 28 = .ok (.bipush 16, 2) := by decide +kernel
theorem dX6_overEntries_30 : decode cX6_overEntries 30 = .ok (.idiv, 1) := by decide +kernel
theorem dX6_overEntries_31 : decode cX6_overEntries 31 = .ok (.iload 7, 2) := by decide +kernel
theorem dX6_overEntries_33 : decode cX6_overEntries 33 = .ok (.bipush 16, 2) := by decide +kernel
theorem dX6_overEntries_35 : decode cX6_overEntries 35 = .ok (.irem, 1) := by decide +kernel
theorem dX6_overEntries_36 : decode cX6_overEntries 36 = .ok (.invokevirtual 81, 3) := by decide +kernel
theorem dX6_overEntries_39 : decode cX6_overEntries 39 = .ok (.istore 8, 2) := by decide +kernel
theorem dX6_overEntries_41 : decode cX6_overEntries 41 = .ok (.iload_n 3, 1) := by decide +kernel
theorem dX6_overEntries_42 : decode cX6_overEntries 42 = .ok (.iload 8, 2) := by decide +kernel
theorem dX6_overEntries_44 : decode cX6_overEntries 44 = .ok (.ifCond .eq 7, 3) := by decide +kernel
theorem dX6_overEntries_47 : decode cX6_overEntries 47 = .ok (.iconst 1, 1) := by decide +kernel
theorem dX6_overEntries_48 : decode cX6_overEntries 48 = .ok (.goto 4, 3) := by decide +kernel
theorem dX6_overEntries_51 : decode cX6_overEntries 51 = .ok (.iconst 0, 1) := by decide +kernel
theorem dX6_overEntries_52 : decode cX6_overEntries 52 = .ok (.iadd, 1) := by decide +kernel
theorem dX6_overEntries_53 : decode cX6_overEntries 53 = .ok (.istore_n 3, 1) := by decide +kernel
theorem dX6_overEntries_54 : decode cX6_overEntries 54 = .ok (.iload 8, 2) := by decide +kernel
theorem dX6_overEntries_56 : decode cX6_overEntries 56 = .ok (.iload 4, 2) := by decide +kernel
theorem dX6_overEntries_58 : decode cX6_overEntries 58 = .ok (.if_icmp .le 8, 3) := by decide +kernel
theorem dX6_overEntries_61 : decode cX6_overEntries 61 = .ok (.iload 8, 2) := by decide +kernel
theorem dX6_overEntries_63 : decode cX6_overEntries 63 = .ok (.goto 5, 3) := by decide +kernel
theorem dX6_overEntries_66 : decode cX6_overEntries 66 = .ok (.iload 4, 2) := by decide +kernel
theorem dX6_overEntries_68 : decode cX6_overEntries 68 = .ok (.istore 4, 2) := by decide +kernel
theorem dX6_overEntries_70 : decode cX6_overEntries 70 = .ok (.iload 8, 2) := by decide +kernel
theorem dX6_overEntries_72 : decode cX6_overEntries 72 = .ok (.iload 5, 2) := by decide +kernel
theorem dX6_overEntries_74 : decode cX6_overEntries 74 = .ok (.if_icmp .ge 8, 3) := by decide +kernel
theorem dX6_overEntries_77 : decode cX6_overEntries 77 = .ok (.iload 8, 2) := by decide +kernel
theorem dX6_overEntries_79 : decode cX6_overEntries 79 = .ok (.goto 5, 3) := by decide +kernel
theorem dX6_overEntries_82 : decode cX6_overEntries 82 = .ok (.iload 5, 2) := by decide +kernel
theorem dX6_overEntries_84 : decode cX6_overEntries 84 = .ok (.istore 5, 2) := by decide +kernel
theorem dX6_overEntries_86 : decode cX6_overEntries 86 = .ok (.iload 6, 2) := by decide +kernel
theorem dX6_overEntries_88 : decode cX6_overEntries 88 = .ok (.ifCond .eq 27, 3) := by decide +kernel
theorem dX6_overEntries_91 : decode cX6_overEntries 91 = .ok (.iload 8, 2) := by decide +kernel
theorem dX6_overEntries_93 : decode cX6_overEntries 93 = .ok (.aload_n 0, 1) := by decide +kernel
theorem dX6_overEntries_94 : decode cX6_overEntries 94 = .ok (.iload_n 1, 1) := by decide +kernel
theorem dX6_overEntries_95 : decode cX6_overEntries 95 = .ok (.iload 7, 2) := by decide +kernel
theorem dX6_overEntries_97 : decode cX6_overEntries 97 = .ok (.bipush 16, 2) := by decide +kernel
theorem dX6_overEntries_99 : decode cX6_overEntries 99 = .ok (.irem, 1) := by decide +kernel
theorem dX6_overEntries_100 : decode cX6_overEntries 100 = .ok (.iload 7, 2) := by decide +kernel
theorem dX6_overEntries_102 : decode cX6_overEntries 102 = .ok (.bipush 16, 2) := by decide +kernel
theorem dX6_overEntries_104 : decode cX6_overEntries 104 = .ok (.idiv, 1) := by decide +kernel
theorem dX6_overEntries_105 : decode cX6_overEntries 105 = .ok (.invokevirtual 81, 3) := by decide +kernel
theorem dX6_overEntries_108 : decode cX6_overEntries 108 = .ok (.if_icmp .ne 7, 3) := by decide +kernel
theorem dX6_overEntries_111 : decode cX6_overEntries 111 = .ok (.iconst 1, 1) := by decide +kernel
theorem dX6_overEntries_112 : decode cX6_overEntries 112 = .ok (.goto 4, 3) := by decide +kernel
theorem dX6_overEntries_115 : decode cX6_overEntries 115 = .ok (.iconst 0, 1) := by decide +kernel
theorem dX6_overEntries_116 : decode cX6_overEntries 116 = .ok (.istore 6, 2) := by decide +kernel
theorem dX6_overEntries_118 : decode cX6_overEntries 118 = .ok (.iinc 7 1, 3) := by decide +kernel
theorem dX6_overEntries_121 : decode cX6_overEntries 121 = .ok (.goto (-105), 3) := by decide +kernel
theorem dX6_overEntries_124 : decode cX6_overEntries 124 = .ok (.iload_n 2, 1) := by decide +kernel
theorem dX6_overEntries_125 : decode cX6_overEntries 125 = .ok (.bipush 6, 2) := by decide +kernel
theorem dX6_overEntries_127 : decode cX6_overEntries 127 = .ok (.if_icmp .ne 7, 3) := by decide +kernel
theorem dX6_overEntries_130 : decode cX6_overEntries 130 = .ok (.iload_n 3, 1) := by decide +kernel
theorem dX6_overEntries_131 : decode cX6_overEntries 131 = .ok (.goto 41, 3) := by decide +kernel
theorem dX6_overEntries_134 : decode cX6_overEntries 134 = .ok (.iload_n 2, 1) := by decide +kernel
theorem dX6_overEntries_135 : decode cX6_overEntries 135 = .ok (.bipush 8, 2) := by decide +kernel
theorem dX6_overEntries_137 : decode cX6_overEntries 137 = .ok (.if_icmp .ne 11, 3) := by decide +kernel
theorem dX6_overEntries_140 : decode cX6_overEntries 140 = .ok (.iload 4, 2) := by decide +kernel
theorem dX6_overEntries_142 : decode cX6_overEntries 142 = .ok (.ldc 123, 2) := by decide +kernel
theorem dX6_overEntries_144 : decode cX6_overEntries 144 = .ok (.iadd, 1) := by decide +kernel
theorem dX6_overEntries_145 : decode cX6_overEntries 145 = .ok (.goto 27, 3) := by decide +kernel
theorem dX6_overEntries_148 : decode cX6_overEntries 148 = .ok (.iload_n 2, 1) := by decide +kernel
theorem dX6_overEntries_149 : decode cX6_overEntries 149 = .ok (.bipush 9, 2) := by decide +kernel
theorem dX6_overEntries_151 : decode cX6_overEntries 151 = .ok (.if_icmp .ne 11, 3) := by decide +kernel
theorem dX6_overEntries_154 : decode cX6_overEntries 154 = .ok (.iload 5, 2) := by decide +kernel
theorem dX6_overEntries_156 : decode cX6_overEntries 156 = .ok (.ldc 123, 2) := by decide +kernel
theorem dX6_overEntries_158 : decode cX6_overEntries 158 = .ok (.iadd, 1) := by decide +kernel
theorem dX6_overEntries_159 : decode cX6_overEntries 159 = .ok (.goto 13, 3) := by decide +kernel
theorem dX6_overEntries_162 : decode cX6_overEntries 162 = .ok (.iload 6, 2) := by decide +kernel
theorem dX6_overEntries_164 : decode cX6_overEntries 164 = .ok (.ifCond .eq 7, 3) := by decide +kernel
theorem dX6_overEntries_167 : decode cX6_overEntries 167 = .ok (.iconst 1, 1) := by decide +kernel
theorem dX6_overEntries_168 : decode cX6_overEntries 168 = .ok (.goto 4, 3) := by decide +kernel
theorem dX6_overEntries_171 : decode cX6_overEntries 171 = .ok (.iconst 0, 1) := by decide +kernel
theorem dX6_overEntries_172 : decode cX6_overEntries 172 = .ok (.ireturn, 1) := by decide +kernel
theorem dX6_of_0 : decode cX6_of 0 = .ok (.aload_n 0, 1) := by decide +kernel
theorem dX6_of_1 : decode cX6_of 1 = .ok (.iconst 0, 1) := by decide +kernel
theorem dX6_of_2 : decode cX6_of 2 = .ok (.putfield 41, 3) := by decide +kernel
theorem dX6_of_5 : decode cX6_of 5 = .ok (.iload_n 1, 1) := by decide +kernel
theorem dX6_of_6 : decode cX6_of 6 = .ok (.invokestatic 104, 3) := by decide +kernel
theorem dX6_of_9 : decode cX6_of 9 = .ok (.ifCond .ne 5, 3) := by decide +kernel
theorem dX6_of_12 : decode cX6_of 12 = .ok (.iconst (-1), 1) := by decide +kernel
theorem dX6_of_13 : decode cX6_of 13 = .ok (.ireturn, 1) := by decide +kernel
theorem dX6_of_14 : decode cX6_of 14 = .ok (.iload_n 2, 1) := by decide +kernel
theorem dX6_of_15 : decode cX6_of 15 = .ok (.tableswitch 86 0 10 #[57, 63, 63, 63, 63, 63, 79, 70, 79, 79, 79], 57) := by decide +kernel
theorem dX6_of_72 : decode cX6_of 72 = .ok (.aload_n 0, 1) := by decide +kernel
theorem dX6_of_73 : decode cX6_of 73 = .ok (.iload_n 1, 1) := by decide +kernel
theorem dX6_of_74 : decode cX6_of 74 = .ok (.invokevirtual 78, 3) := by decide +kernel
theorem dX6_of_77 : decode cX6_of 77 = .ok (.ireturn, 1) := by decide +kernel
theorem dX6_of_78 : decode cX6_of 78 = .ok (.aload_n 0, 1) := by decide +kernel
theorem dX6_of_79 : decode cX6_of 79 = .ok (.iload_n 1, 1) := by decide +kernel
theorem dX6_of_80 : decode cX6_of 80 = .ok (.iload_n 2, 1) := by decide +kernel
theorem dX6_of_81 : decode cX6_of 81 = .ok (.invokevirtual 155, 3) := by decide +kernel
theorem dX6_of_84 : decode cX6_of 84 = .ok (.ireturn, 1) := by decide +kernel
theorem dX6_of_85 : decode cX6_of 85 = .ok (.aload_n 0, 1) := by decide +kernel
theorem dX6_of_86 : decode cX6_of 86 = .ok (.iload_n 1, 1) := by decide +kernel
theorem dX6_of_87 : decode cX6_of 87 = .ok (.invokevirtual 148, 3) := by decide +kernel
theorem dX6_of_90 : decode cX6_of 90 = .ok (.ldc 151, 2) := by decide +kernel
theorem dX6_of_92 : decode cX6_of 92 = .ok (.iadd, 1) := by decide +kernel
theorem dX6_of_93 : decode cX6_of 93 = .ok (.ireturn, 1) := by decide +kernel
theorem dX6_of_94 : decode cX6_of 94 = .ok (.aload_n 0, 1) := by decide +kernel
theorem dX6_of_95 : decode cX6_of 95 = .ok (.iload_n 1, 1) := by decide +kernel
theorem dX6_of_96 : decode cX6_of 96 = .ok (.iload_n 2, 1) := by decide +kernel
theorem dX6_of_97 : decode cX6_of 97 = .ok (.invokevirtual 158, 3) := by decide +kernel
theorem dX6_of_100 : decode cX6_of 100 = .ok (.ireturn, 1) := by decide +kernel
theorem dX6_of_101 : decode cX6_of 101 = .ok (.bipush (-2), 2) := by decide +kernel
theorem dX6_of_103 : decode cX6_of 103 = .ok (.ireturn, 1) := by decide +kernel
theorem dX6_product_0 : decode cX6_product 0 = .ok (.aload_n 0, 1) := by decide +kernel
theorem dX6_product_1 : decode cX6_product 1 = .ok (.iconst 0, 1) := by decide +kernel
theorem dX6_product_2 : decode cX6_product 2 = .ok (.putfield 41, 3) := by decide +kernel
theorem dX6_product_5 : decode cX6_product 5 = .ok (.iload_n 1, 1) := by decide +kernel
theorem dX6_product_6 : decode cX6_product 6 = .ok (.invokestatic 104, 3) := by decide +kernel
theorem dX6_product_9 : decode cX6_product 9 = .ok (.ifCond .eq 40, 3) := by decide +kernel
theorem dX6_product_12 : decode cX6_product 12 = .ok (.iload_n 2, 1) := by decide +kernel
theorem dX6_product_13 : decode cX6_product 13 = .ok (.iconst 0, 1) := by decide +kernel
theorem dX6_product_14 : decode cX6_product 14 = .ok (.bipush 15, 2) := by decide +kernel
theorem dX6_product_16 : decode cX6_product 16 = .ok (.invokestatic 45, 3) := by decide +kernel
theorem dX6_product_19 : decode cX6_product 19 = .ok (.ifCond .eq 30, 3) := by decide +kernel
theorem dX6_product_22 : decode cX6_product 22 = .ok (.iload_n 3, 1) := by decide +kernel
theorem dX6_product_23 : decode cX6_product 23 = .ok (.sipush (-9999), 3) := by decide +kernel
theorem dX6_product_26 : decode cX6_product 26 = .ok (.sipush 9999, 3) := by decide +kernel
theorem dX6_product_29 : decode cX6_product 29 = .ok (.invokestatic 45, 3) := by decide +kernel
theorem dX6_product_32 : decode cX6_product 32 = .ok (.ifCond .eq 17, 3) := by decide +kernel
theorem dX6_product_35 : decode cX6_product 35 = .ok (.iload 4, 2) := by decide +kernel
theorem dX6_product_37 : decode cX6_product 37 = .ok (.sipush (-999), 3) := by decide +kernel
theorem dX6_product_40 : decode cX6_product 40 = .ok (.sipush 999, 3) := by decide +kernel
theorem dX6_product_43 : decode cX6_product 43 = .ok (.invokestatic 45, 3) := by decide +kernel
theorem dX6_product_46 : decode cX6_product 46 = .ok (.ifCond .ne 7, 3) := by decide +kernel
theorem dX6_product_49 : decode cX6_product 49 = .ok (.ldc2_w 161, 3) := by decide +kernel
theorem dX6_product_52 : decode cX6_product 52 = .ok (.lreturn, 1) := by decide +kernel
theorem dX6_product_53 : decode cX6_product 53 = .ok (.lconst 0, 1) := by decide +kernel
theorem dX6_product_54 : decode cX6_product 54 = .ok (.lstore 5, 2) := by decide +kernel
theorem dX6_product_56 : decode cX6_product 56 = .ok (.iconst 0, 1) := by decide +kernel
theorem dX6_product_57 : decode cX6_product 57 = .ok (.istore 7, 2) := by decide +kernel
theorem dX6_product_59 : decode cX6_product 59 = .ok (.iload 7, 2) := by decide +kernel
theorem dX6_product_61 : decode cX6_product 61 = .ok (.bipush 16, 2) := by decide +kernel
theorem dX6_product_63 : decode cX6_product 63 = .ok (.if_icmp .ge 32, 3) := by decide +kernel
theorem dX6_product_66 : decode cX6_product 66 = .ok (.lload 5, 2) := by decide +kernel
theorem dX6_product_68 : decode cX6_product 68 = .ok (.aload_n 0, 1) := by decide +kernel
theorem dX6_product_69 : decode cX6_product 69 = .ok (.iload_n 1, 1) := by decide +kernel
theorem dX6_product_70 : decode cX6_product 70 = .ok (.iload_n 2, 1) := by decide +kernel
theorem dX6_product_71 : decode cX6_product 71 = .ok (.iload 7, 2) := by decide +kernel
theorem dX6_product_73 : decode cX6_product 73 = .ok (.invokevirtual 81, 3) := by decide +kernel
theorem dX6_product_76 : decode cX6_product 76 = .ok (.i2l, 1) := by decide +kernel
theorem dX6_product_77 : decode cX6_product 77 = .ok (.iload_n 3, 1) := by decide +kernel
theorem dX6_product_78 : decode cX6_product 78 = .ok (.iload 4, 2) := by decide +kernel
theorem dX6_product_80 : decode cX6_product 80 = .ok (.iload 7, 2) := by decide +kernel
theorem dX6_product_82 : decode cX6_product 82 = .ok (.imul, 1) := by decide +kernel
theorem dX6_product_83 : decode cX6_product 83 = .ok (.iadd, 1) := by decide +kernel
theorem dX6_product_84 : decode cX6_product 84 = .ok (.i2l, 1) := by decide +kernel
theorem dX6_product_85 : decode cX6_product 85 = .ok (.lmul, 1) := by decide +kernel
theorem dX6_product_86 : decode cX6_product 86 = .ok (.ladd, 1) := by decide +kernel
theorem dX6_product_87 : decode cX6_product 87 = .ok (.lstore 5, 2) := by decide +kernel
theorem dX6_product_89 : decode cX6_product 89 = .ok (.iinc 7 1, 3) := by decide +kernel
theorem dX6_product_92 : decode cX6_product 92 = .ok (.goto (-33), 3) := by decide +kernel
theorem dX6_product_95 : decode cX6_product 95 = .ok (.lload 5, 2) := by decide +kernel
theorem dX6_product_97 : decode cX6_product 97 = .ok (.lreturn, 1) := by decide +kernel
theorem dX6_mean_0 : decode cX6_mean 0 = .ok (.aload_n 0, 1) := by decide +kernel
theorem dX6_mean_1 : decode cX6_mean 1 = .ok (.iconst 0, 1) := by decide +kernel
theorem dX6_mean_2 : decode cX6_mean 2 = .ok (.putfield 41, 3) := by decide +kernel
theorem dX6_mean_5 : decode cX6_mean 5 = .ok (.iconst 0, 1) := by decide +kernel
theorem dX6_mean_6 : decode cX6_mean 6 = .ok (.istore_n 2, 1) := by decide +kernel
theorem dX6_mean_7 : decode cX6_mean 7 = .ok (.iconst 0, 1) := by decide +kernel
theorem dX6_mean_8 : decode cX6_mean 8 = .ok (.istore_n 3, 1) := by decide +kernel
theorem dX6_mean_9 : decode cX6_mean 9 = .ok (.iload_n 3, 1) := by decide +kernel
theorem dX6_mean_10 : decode cX6_mean 10 = .ok (.sipush 256, 3) := by decide +kernel
theorem dX6_mean_13 : decode cX6_mean 13 = .ok (.if_icmp .ge 32, 3) := by decide +kernel
theorem dX6_mean_16 : decode cX6_mean 16 = .ok (.iload_n 1, 1) := by decide +kernel
theorem dX6_mean_17 : decode cX6_mean 17 = .ok (.invokestatic 104, 3) := by decide +kernel
theorem dX6_mean_20 : decode cX6_mean 20 = .ok (.ifCond .eq 25, 3) := by decide +kernel
theorem dX6_mean_23 : decode cX6_mean 23 = .ok (.iload_n 2, 1) := by decide +kernel
theorem dX6_mean_24 : decode cX6_mean 24 = .ok (.aload_n 0, 1) := by decide +kernel
theorem dX6_mean_25 : decode cX6_mean 25 = .ok (.iload_n 1, 1) := by decide +kernel
theorem dX6_mean_26 : decode cX6_mean 26 = .ok (.iload_n 3, 1) := by decide +kernel
theorem dX6_mean_27 : decode cX6_mean 27 = .ok (.bipush 16, 2) := by decide +kernel
theorem dX6_mean_29 : decode cX6_mean 29 = .ok (.idiv, 1) := by decide +kernel
theorem dX6_mean_30 : decode cX6_mean 30 = .ok (.iload_n 3, 1) := by decide +kernel
theorem dX6_mean_31 : decode cX6_mean 31 = .ok (.bipush 16, 2) := by decide +kernel
theorem dX6_mean_33 : decode cX6_mean 33 = .ok (.irem, 1) := by decide +kernel
theorem dX6_mean_34 : decode cX6_mean 34 = .ok (.invokevirtual 81, 3) := by decide +kernel
theorem dX6_mean_37 : decode cX6_mean 37 = .ok (.iadd, 1) := by decide +kernel
theorem dX6_mean_38 : decode cX6_mean 38 = .ok (.istore_n 2, 1) := by decide +kernel
theorem dX6_mean_39 : decode cX6_mean 39 = .ok (.iinc 3 1, 3) := by decide +kernel
theorem dX6_mean_42 : decode cX6_mean 42 = .ok (.goto (-33), 3) := by decide +kernel
theorem dX6_mean_45 : decode cX6_mean 45 = .ok (.iload_n 2, 1) := by decide +kernel
theorem dX6_mean_46 : decode cX6_mean 46 = .ok (.i2d, 1) := by decide +kernel
theorem dX6_mean_47 : decode cX6_mean 47 = .ok (.ldc2_w 163, 3) := by decide +kernel
theorem dX6_mean_50 : decode cX6_mean 50 = .ok (.ddiv, 1) := by decide +kernel
theorem dX6_mean_51 : decode cX6_mean 51 = .ok (.invokestatic 165, 3) := by decide +kernel
theorem dX6_mean_54 : decode cX6_mean 54 = .ok (.lreturn, 1) := by decide +kernel
theorem dX6_share_0 : decode cX6_share 0 = .ok (.aload_n 0, 1) := by decide +kernel
theorem dX6_share_1 : decode cX6_share 1 = .ok (.iconst 0, 1) := by decide +kernel
theorem dX6_share_2 : decode cX6_share 2 = .ok (.putfield 41, 3) := by decide +kernel
theorem dX6_share_5 : decode cX6_share 5 = .ok (.iload_n 1, 1) := by decide +kernel
theorem dX6_share_6 : decode cX6_share 6 = .ok (.invokestatic 104, 3) := by decide +kernel
theorem dX6_share_9 : decode cX6_share 9 = .ok (.ifCond .eq 18, 3) := by decide +kernel
theorem dX6_share_12 : decode cX6_share 12 = .ok (.aload_n 0, 1) := by decide +kernel
theorem dX6_share_13 : decode cX6_share 13 = .ok (.iload_n 1, 1) := by decide +kernel
theorem dX6_share_14 : decode cX6_share 14 = .ok (.invokevirtual 78, 3) := by decide +kernel
theorem dX6_share_17 : decode cX6_share 17 = .ok (.i2f, 1) := by decide +kernel
theorem dX6_share_18 : decode cX6_share 18 = .ok (.ldc 171, 2) := by decide +kernel
theorem dX6_share_20 : decode cX6_share 20 = .ok (.fdiv, 1) := by decide +kernel
theorem dX6_share_21 : decode cX6_share 21 = .ok (.invokestatic 172, 3) := by decide +kernel
theorem dX6_share_24 : decode cX6_share 24 = .ok (.goto 4, 3) := by decide +kernel
theorem dX6_share_27 : decode cX6_share 27 = .ok (.iconst (-1), 1) := by decide +kernel
theorem dX6_share_28 : decode cX6_share 28 = .ok (.ireturn, 1) := by decide +kernel
theorem dX6_emptyOnes_0 : decode cX6_emptyOnes 0 = .ok (.iconst 0, 1) := by decide +kernel
theorem dX6_emptyOnes_1 : decode cX6_emptyOnes 1 = .ok (.istore_n 1, 1) := by decide +kernel
theorem dX6_emptyOnes_2 : decode cX6_emptyOnes 2 = .ok (.iconst 0, 1) := by decide +kernel
theorem dX6_emptyOnes_3 : decode cX6_emptyOnes 3 = .ok (.istore_n 2, 1) := by decide +kernel
theorem dX6_emptyOnes_4 : decode cX6_emptyOnes 4 = .ok (.iload_n 2, 1) := by decide +kernel
theorem dX6_emptyOnes_5 : decode cX6_emptyOnes 5 = .ok (.iconst 4, 1) := by decide +kernel
theorem dX6_emptyOnes_6 : decode cX6_emptyOnes 6 = .ok (.if_icmp .ge 30, 3) := by decide +kernel
theorem dX6_emptyOnes_9 : decode cX6_emptyOnes 9 = .ok (.iload_n 1, 1) := by decide +kernel
theorem dX6_emptyOnes_10 : decode cX6_emptyOnes 10 = .ok (.aload_n 0, 1) := by decide +kernel
theorem dX6_emptyOnes_11 : decode cX6_emptyOnes 11 = .ok (.iload_n 2, 1) := by decide +kernel
theorem dX6_emptyOnes_12 : decode cX6_emptyOnes 12 = .ok (.iconst 0, 1) := by decide +kernel
theorem dX6_emptyOnes_13 : decode cX6_emptyOnes 13 = .ok (.iconst 0, 1) := by decide +kernel
theorem dX6_emptyOnes_14 : decode cX6_emptyOnes 14 = .ok (.iconst 0, 1) := by decide +kernel
theorem dX6_emptyOnes_15 : decode cX6_emptyOnes 15 = .ok (.invokevirtual 59, 3) := by decide +kernel
theorem dX6_emptyOnes_18 : decode cX6_emptyOnes 18 = .ok (.ifCond .ne 9, 3) := by decide +kernel
theorem dX6_emptyOnes_21 : decode cX6_emptyOnes 21 = .ok (.iconst 1, 1) := by decide +kernel
theorem dX6_emptyOnes_22 : decode cX6_emptyOnes 22 = .ok (.iload_n 2, 1) := by decide +kernel
theorem dX6_emptyOnes_23 : decode cX6_emptyOnes 23 = .ok (.ishl, 1) := by decide +kernel
theorem dX6_emptyOnes_24 : decode cX6_emptyOnes 24 = .ok (.goto 4, 3) := by decide +kernel
theorem dX6_emptyOnes_27 : decode cX6_emptyOnes 27 = .ok (.iconst 0, 1) := by decide +kernel
theorem dX6_emptyOnes_28 : decode cX6_emptyOnes 28 = .ok (.ior, 1) := by decide +kernel
theorem dX6_emptyOnes_29 : decode cX6_emptyOnes 29 = .ok (.istore_n 1, 1) := by decide +kernel
theorem dX6_emptyOnes_30 : decode cX6_emptyOnes 30 = .ok (.iinc 2 1, 3) := by decide +kernel
theorem dX6_emptyOnes_33 : decode cX6_emptyOnes 33 = .ok (.goto (-29), 3) := by decide +kernel
theorem dX6_emptyOnes_36 : decode cX6_emptyOnes 36 = .ok (.iload_n 1, 1) := by decide +kernel
theorem dX6_emptyOnes_37 : decode cX6_emptyOnes 37 = .ok (.ireturn, 1) := by decide +kernel
theorem dX6_count_0 : decode cX6_count 0 = .ok (.aload_n 0, 1) := by decide +kernel
theorem dX6_count_1 : decode cX6_count 1 = .ok (.iconst 0, 1) := by decide +kernel
theorem dX6_count_2 : decode cX6_count 2 = .ok (.putfield 41, 3) := by decide +kernel
theorem dX6_count_5 : decode cX6_count 5 = .ok (.iload_n 1, 1) := by decide +kernel
theorem dX6_count_6 : decode cX6_count 6 = .ok (.tableswitch 63 0 4 #[34, 39, 44, 53, 58], 34) := by decide +kernel
theorem dX6_count_40 : decode cX6_count 40 = .ok (.aload_n 0, 1) := by decide +kernel
theorem dX6_count_41 : decode cX6_count 41 = .ok (.invokevirtual 178, 3) := by decide +kernel
theorem dX6_count_44 : decode cX6_count 44 = .ok (.ireturn, 1) := by decide +kernel
theorem dX6_count_45 : decode cX6_count 45 = .ok (.aload_n 0, 1) := by decide +kernel
theorem dX6_count_46 : decode cX6_count 46 = .ok (.invokevirtual 181, 3) := by decide +kernel
theorem dX6_count_49 : decode cX6_count 49 = .ok (.ireturn, 1) := by decide +kernel
theorem dX6_count_50 : decode cX6_count 50 = .ok (.aload_n 0, 1) := by decide +kernel
theorem dX6_count_51 : decode cX6_count 51 = .ok (.getfield 7, 3) := by decide +kernel
theorem dX6_count_54 : decode cX6_count 54 = .ok (.sipush 1364, 3) := by decide +kernel
theorem dX6_count_57 : decode cX6_count 57 = .ok (.iaload, 1) := by decide +kernel
theorem dX6_count_58 : decode cX6_count 58 = .ok (.ireturn, 1) := by decide +kernel
theorem dX6_count_59 : decode cX6_count 59 = .ok (.aload_n 0, 1) := by decide +kernel
theorem dX6_count_60 : decode cX6_count 60 = .ok (.getfield 115, 3) := by decide +kernel
theorem dX6_count_63 : decode cX6_count 63 = .ok (.ireturn, 1) := by decide +kernel
theorem dX6_count_64 : decode cX6_count 64 = .ok (.aload_n 0, 1) := by decide +kernel
theorem dX6_count_65 : decode cX6_count 65 = .ok (.getfield 53, 3) := by decide +kernel
theorem dX6_count_68 : decode cX6_count 68 = .ok (.ireturn, 1) := by decide +kernel
theorem dX6_count_69 : decode cX6_count 69 = .ok (.bipush (-2), 2) := by decide +kernel
theorem dX6_count_71 : decode cX6_count 71 = .ok (.ireturn, 1) := by decide +kernel
theorem dX6_far_0 : decode cX6_far 0 = .ok (.aload_n 0, 1) := by decide +kernel
theorem dX6_far_1 : decode cX6_far 1 = .ok (.iconst 0, 1) := by decide +kernel
theorem dX6_far_2 : decode cX6_far 2 = .ok (.putfield 41, 3) := by decide +kernel
theorem dX6_far_5 : decode cX6_far 5 = .ok (.iload_n 1, 1) := by decide +kernel
theorem dX6_far_6 : decode cX6_far 6 = .ok (.invokestatic 104, 3) := by decide +kernel
theorem dX6_far_9 : decode cX6_far 9 = .ok (.ifCond .eq 10, 3) := by decide +kernel
theorem dX6_far_12 : decode cX6_far 12 = .ok (.iload_n 2, 1) := by decide +kernel
theorem dX6_far_13 : decode cX6_far 13 = .ok (.invokestatic 104, 3) := by decide +kernel
theorem dX6_far_16 : decode cX6_far 16 = .ok (.ifCond .ne 5, 3) := by decide +kernel
theorem dX6_far_19 : decode cX6_far 19 = .ok (.iconst (-1), 1) := by decide +kernel
theorem dX6_far_20 : decode cX6_far 20 = .ok (.ireturn, 1) := by decide +kernel
theorem dX6_far_21 : decode cX6_far 21 = .ok (.iconst 0, 1) := by decide +kernel
theorem dX6_far_22 : decode cX6_far 22 = .ok (.istore_n 3, 1) := by decide +kernel
theorem dX6_far_23 : decode cX6_far 23 = .ok (.iconst 0, 1) := by decide +kernel
theorem dX6_far_24 : decode cX6_far 24 = .ok (.istore 4, 2) := by decide +kernel
theorem dX6_far_26 : decode cX6_far 26 = .ok (.iload 4, 2) := by decide +kernel
theorem dX6_far_28 : decode cX6_far 28 = .ok (.sipush 256, 3) := by decide +kernel
theorem dX6_far_31 : decode cX6_far 31 = .ok (.if_icmp .ge 70, 3) := by decide +kernel
theorem dX6_far_34 : decode cX6_far 34 = .ok (.aload_n 0, 1) := by decide +kernel
theorem dX6_far_35 : decode cX6_far 35 = .ok (.iload_n 1, 1) := by decide +kernel
theorem dX6_far_36 : decode cX6_far 36 = .ok (.iload 4, 2) := by decide +kernel
theorem dX6_far_38 : decode cX6_far 38 = .ok (.bipush 16, 2) := by decide +kernel
theorem dX6_far_40 : decode cX6_far 40 = .ok (.idiv, 1) := by decide +kernel
theorem dX6_far_41 : decode cX6_far 41 = .ok (.iload 4, 2) := by decide +kernel
theorem dX6_far_43 : decode cX6_far 43 = .ok (.bipush 16, 2) := by decide +kernel
theorem dX6_far_45 : decode cX6_far 45 = .ok (.irem, 1) := by decide +kernel
theorem dX6_far_46 : decode cX6_far 46 = .ok (.invokevirtual 81, 3) := by decide +kernel
theorem dX6_far_49 : decode cX6_far 49 = .ok (.aload_n 0, 1) := by decide +kernel
theorem dX6_far_50 : decode cX6_far 50 = .ok (.iload_n 2, 1) := by decide +kernel
theorem dX6_far_51 : decode cX6_far 51 = .ok (.iload 4, 2) := by decide +kernel
theorem dX6_far_53 : decode cX6_far 53 = .ok (.bipush 16, 2) := by decide +kernel
theorem dX6_far_55 : decode cX6_far 55 = .ok (.idiv, 1) := by decide +kernel
theorem dX6_far_56 : decode cX6_far 56 = .ok (.iload 4, 2) := by decide +kernel
theorem dX6_far_58 : decode cX6_far 58 = .ok (.bipush 16, 2) := by decide +kernel
theorem dX6_far_60 : decode cX6_far 60 = .ok (.irem, 1) := by decide +kernel
theorem dX6_far_61 : decode cX6_far 61 = .ok (.invokevirtual 81, 3) := by decide +kernel
theorem dX6_far_64 : decode cX6_far 64 = .ok (.isub, 1) := by decide +kernel
theorem dX6_far_65 : decode cX6_far 65 = .ok (.istore 5, 2) := by decide +kernel
theorem dX6_far_67 : decode cX6_far 67 = .ok (.iload 5, 2) := by decide +kernel
theorem dX6_far_69 : decode cX6_far 69 = .ok (.ifCond .ge 9, 3) := by decide +kernel
theorem dX6_far_72 : decode cX6_far 72 = .ok (.iload 5, 2) := by decide +kernel
theorem dX6_far_74 : decode cX6_far 74 = .ok (.ineg, 1) := by decide +kernel
theorem dX6_far_75 : decode cX6_far 75 = .ok (.goto 5, 3) := by decide +kernel
theorem dX6_far_78 : decode cX6_far 78 = .ok (.iload 5, 2) := by decide +kernel
theorem dX6_far_80 : decode cX6_far 80 = .ok (.istore 5, 2) := by decide +kernel
theorem dX6_far_82 : decode cX6_far 82 = .ok (.iload 5, 2) := by decide +kernel
theorem dX6_far_84 : decode cX6_far 84 = .ok (.iload_n 3, 1) := by decide +kernel
theorem dX6_far_85 : decode cX6_far 85 = .ok (.if_icmp .le 8, 3) := by decide +kernel
theorem dX6_far_88 : decode cX6_far 88 = .ok (.iload 5, 2) := by decide +kernel
theorem dX6_far_90 : decode cX6_far 90 = .ok (.goto 4, 3) := by decide +kernel
theorem dX6_far_93 : decode cX6_far 93 = .ok (.iload_n 3, 1) := by decide +kernel
theorem dX6_far_94 : decode cX6_far 94 = .ok (.istore_n 3, 1) := by decide +kernel
theorem dX6_far_95 : decode cX6_far 95 = .ok (.iinc 4 1, 3) := by decide +kernel
theorem dX6_far_98 : decode cX6_far 98 = .ok (.goto (-72), 3) := by decide +kernel
theorem dX6_far_101 : decode cX6_far 101 = .ok (.iload_n 3, 1) := by decide +kernel
theorem dX6_far_102 : decode cX6_far 102 = .ok (.ireturn, 1) := by decide +kernel
theorem dX6_wouldTake_0 : decode cX6_wouldTake 0 = .ok (.aload_n 0, 1) := by decide +kernel
theorem dX6_wouldTake_1 : decode cX6_wouldTake 1 = .ok (.iconst 0, 1) := by decide +kernel
theorem dX6_wouldTake_2 : decode cX6_wouldTake 2 = .ok (.putfield 41, 3) := by decide +kernel
theorem dX6_wouldTake_5 : decode cX6_wouldTake 5 = .ok (.iload_n 1, 1) := by decide +kernel
theorem dX6_wouldTake_6 : decode cX6_wouldTake 6 = .ok (.invokestatic 104, 3) := by decide +kernel
theorem dX6_wouldTake_9 : decode cX6_wouldTake 9 = .ok (.ifCond .ne 5, 3) := by decide +kernel
theorem dX6_wouldTake_12 : decode cX6_wouldTake 12 = .ok (.iconst (-1), 1) := by decide +kernel
theorem dX6_wouldTake_13 : decode cX6_wouldTake 13 = .ok (.ireturn, 1) := by decide +kernel
theorem dX6_wouldTake_14 : decode cX6_wouldTake 14 = .ok (.aload_n 0, 1) := by decide +kernel
theorem dX6_wouldTake_15 : decode cX6_wouldTake 15 = .ok (.invokevirtual 184, 3) := by decide +kernel
theorem dX6_wouldTake_18 : decode cX6_wouldTake 18 = .ok (.aload_n 0, 1) := by decide +kernel
theorem dX6_wouldTake_19 : decode cX6_wouldTake 19 = .ok (.iload_n 1, 1) := by decide +kernel
theorem dX6_wouldTake_20 : decode cX6_wouldTake 20 = .ok (.invokevirtual 130, 3) := by decide +kernel
theorem dX6_wouldTake_23 : decode cX6_wouldTake 23 = .ok (.aload_n 0, 1) := by decide +kernel
theorem dX6_wouldTake_24 : decode cX6_wouldTake 24 = .ok (.iload_n 1, 1) := by decide +kernel
theorem dX6_wouldTake_25 : decode cX6_wouldTake 25 = .ok (.invokevirtual 78, 3) := by decide +kernel
theorem dX6_wouldTake_28 : decode cX6_wouldTake 28 = .ok (.istore_n 2, 1) := by decide +kernel
theorem dX6_wouldTake_29 : decode cX6_wouldTake 29 = .ok (.aload_n 0, 1) := by decide +kernel
theorem dX6_wouldTake_30 : decode cX6_wouldTake 30 = .ok (.invokevirtual 187, 3) := by decide +kernel
theorem dX6_wouldTake_33 : decode cX6_wouldTake 33 = .ok (.iload_n 2, 1) := by decide +kernel
theorem dX6_wouldTake_34 : decode cX6_wouldTake 34 = .ok (.ireturn, 1) := by decide +kernel
theorem dX6_isOne_0 : decode cX6_isOne 0 = .ok (.aload_n 0, 1) := by decide +kernel
theorem dX6_isOne_1 : decode cX6_isOne 1 = .ok (.iconst 0, 1) := by decide +kernel
theorem dX6_isOne_2 : decode cX6_isOne 2 = .ok (.putfield 41, 3) := by decide +kernel
theorem dX6_isOne_5 : decode cX6_isOne 5 = .ok (.iload_n 1, 1) := by decide +kernel
theorem dX6_isOne_6 : decode cX6_isOne 6 = .ok (.invokestatic 104, 3) := by decide +kernel
theorem dX6_isOne_9 : decode cX6_isOne 9 = .ok (.ifCond .ne 5, 3) := by decide +kernel
theorem dX6_isOne_12 : decode cX6_isOne 12 = .ok (.iconst (-1), 1) := by decide +kernel
theorem dX6_isOne_13 : decode cX6_isOne 13 = .ok (.ireturn, 1) := by decide +kernel
theorem dX6_isOne_14 : decode cX6_isOne 14 = .ok (.iload 4, 2) := by decide +kernel
theorem dX6_isOne_16 : decode cX6_isOne 16 = .ok (.iconst 2, 1) := by decide +kernel
theorem dX6_isOne_17 : decode cX6_isOne 17 = .ok (.if_icmp .eq 26, 3) := by decide +kernel
theorem dX6_isOne_20 : decode cX6_isOne 20 = .ok (.iload 4, 2) := by decide +kernel
theorem dX6_isOne_22 : decode cX6_isOne 22 = .ok (.iconst 4, 1) := by decide +kernel
theorem dX6_isOne_23 : decode cX6_isOne 23 = .ok (.if_icmp .eq 20, 3) := by decide +kernel
theorem dX6_isOne_26 : decode cX6_isOne 26 = .ok (.iload 4, 2) := by decide +kernel
theorem dX6_isOne_28 : decode cX6_isOne 28 = .ok (.bipush 8, 2) := by decide +kernel
theorem dX6_isOne_30 : decode cX6_isOne 30 = .ok (.if_icmp .eq 13, 3) := by decide +kernel
theorem dX6_isOne_33 : decode cX6_isOne 33 = .ok (.iload 4, 2) := by decide +kernel
theorem dX6_isOne_35 : decode cX6_isOne 35 = .ok (.bipush 16, 2) := by decide +kernel
theorem dX6_isOne_37 : decode cX6_isOne 37 = .ok (.if_icmp .eq 6, 3) := by decide +kernel
theorem dX6_isOne_40 : decode cX6_isOne 40 = .ok (.bipush (-2), 2) := by decide +kernel
theorem dX6_isOne_42 : decode cX6_isOne 42 = .ok (.ireturn, 1) := by decide +kernel
theorem dX6_isOne_43 : decode cX6_isOne 43 = .ok (.iload_n 2, 1) := by decide +kernel
theorem dX6_isOne_44 : decode cX6_isOne 44 = .ok (.iconst 0, 1) := by decide +kernel
theorem dX6_isOne_45 : decode cX6_isOne 45 = .ok (.bipush 16, 2) := by decide +kernel
theorem dX6_isOne_47 : decode cX6_isOne 47 = .ok (.iload 4, 2) := by decide +kernel
theorem dX6_isOne_49 : decode cX6_isOne 49 = .ok (.isub, 1) := by decide +kernel
theorem dX6_isOne_50 : decode cX6_isOne 50 = .ok (.invokestatic 45, 3) := by decide +kernel
theorem dX6_isOne_53 : decode cX6_isOne 53 = .ok (.ifCond .eq 30, 3) := by decide +kernel
theorem dX6_isOne_56 : decode cX6_isOne 56 = .ok (.iload_n 3, 1) := by decide +kernel
theorem dX6_isOne_57 : decode cX6_isOne 57 = .ok (.iconst 0, 1) := by decide +kernel
theorem dX6_isOne_58 : decode cX6_isOne 58 = .ok (.bipush 16, 2) := by decide +kernel
theorem dX6_isOne_60 : decode cX6_isOne 60 = .ok (.iload 4, 2) := by decide +kernel
theorem dX6_isOne_62 : decode cX6_isOne 62 = .ok (.isub, 1) := by decide +kernel
theorem dX6_isOne_63 : decode cX6_isOne 63 = .ok (.invokestatic 45, 3) := by decide +kernel
theorem dX6_isOne_66 : decode cX6_isOne 66 = .ok (.ifCond .eq 17, 3) := by decide +kernel
theorem dX6_isOne_69 : decode cX6_isOne 69 = .ok (.iload_n 2, 1) := by decide +kernel
theorem dX6_isOne_70 : decode cX6_isOne 70 = .ok (.iload 4, 2) := by decide +kernel
theorem dX6_isOne_72 : decode cX6_isOne 72 = .ok (.irem, 1) := by decide +kernel
theorem dX6_isOne_73 : decode cX6_isOne 73 = .ok (.ifCond .ne 10, 3) := by decide +kernel
theorem dX6_isOne_76 : decode cX6_isOne 76 = .ok (.iload_n 3, 1) := by decide +kernel
theorem dX6_isOne_77 : decode cX6_isOne 77 = .ok (.iload 4, 2) := by decide +kernel
theorem dX6_isOne_79 : decode cX6_isOne 79 = .ok (.irem, 1) := by decide +kernel
theorem dX6_isOne_80 : decode cX6_isOne 80 = .ok (.ifCond .eq 6, 3) := by decide +kernel
theorem dX6_isOne_83 : decode cX6_isOne 83 = .ok (.bipush (-2), 2) := by decide +kernel
theorem dX6_isOne_85 : decode cX6_isOne 85 = .ok (.ireturn, 1) := by decide +kernel
theorem dX6_isOne_86 : decode cX6_isOne 86 = .ok (.aload_n 0, 1) := by decide +kernel
theorem dX6_isOne_87 : decode cX6_isOne 87 = .ok (.iload_n 1, 1) := by decide +kernel
theorem dX6_isOne_88 : decode cX6_isOne 88 = .ok (.iload_n 2, 1) := by decide +kernel
theorem dX6_isOne_89 : decode cX6_isOne 89 = .ok (.iload_n 3, 1) := by decide +kernel
theorem dX6_isOne_90 : decode cX6_isOne 90 = .ok (.iload 4, 2) := by decide +kernel
theorem dX6_isOne_92 : decode cX6_isOne 92 = .ok (.invokevirtual 90, 3) := by decide +kernel
theorem dX6_isOne_95 : decode cX6_isOne 95 = .ok (.ireturn, 1) := by decide +kernel
theorem dX6_zerosBy_0 : decode cX6_zerosBy 0 = .ok (.iconst 0, 1) := by decide +kernel
theorem dX6_zerosBy_1 : decode cX6_zerosBy 1 = .ok (.istore 4, 2) := by decide +kernel
theorem dX6_zerosBy_3 : decode cX6_zerosBy 3 = .ok (.iconst 0, 1) := by decide +kernel
theorem dX6_zerosBy_4 : decode cX6_zerosBy 4 = .ok (.istore 5, 2) := by decide +kernel
theorem dX6_zerosBy_6 : decode cX6_zerosBy 6 = .ok (.iload 5, 2) := by decide +kernel
theorem dX6_zerosBy_8 : decode cX6_zerosBy 8 = .ok (.sipush 256, 3) := by decide +kernel
theorem dX6_zerosBy_11 : decode cX6_zerosBy 11 = .ok (.if_icmp .ge 55, 3) := by decide +kernel
theorem dX6_zerosBy_14 : decode cX6_zerosBy 14 = .ok (.iload 4, 2) := by decide +kernel
theorem dX6_zerosBy_16 : decode cX6_zerosBy 16 = .ok (.aload_n 0, 1) := by decide +kernel
theorem dX6_zerosBy_17 : decode cX6_zerosBy 17 = .ok (.iload_n 1, 1) := by decide +kernel
theorem dX6_zerosBy_18 : decode cX6_zerosBy 18 = .ok (.iload 5, 2) := by decide +kernel
theorem dX6_zerosBy_20 : decode cX6_zerosBy 20 = .ok (.bipush 16, 2) := by decide +kernel
theorem dX6_zerosBy_22 : decode cX6_zerosBy 22 = .ok (.idiv, 1) := by decide +kernel
theorem dX6_zerosBy_23 : decode cX6_zerosBy 23 = .ok (.iload 5, 2) := by decide +kernel
theorem dX6_zerosBy_25 : decode cX6_zerosBy 25 = .ok (.bipush 16, 2) := by decide +kernel
theorem dX6_zerosBy_27 : decode cX6_zerosBy 27 = .ok (.irem, 1) := by decide +kernel
theorem dX6_zerosBy_28 : decode cX6_zerosBy 28 = .ok (.invokevirtual 81, 3) := by decide +kernel
theorem dX6_zerosBy_31 : decode cX6_zerosBy 31 = .ok (.iload_n 3, 1) := by decide +kernel
theorem dX6_zerosBy_32 : decode cX6_zerosBy 32 = .ok (.aload_n 0, 1) := by decide +kernel
theorem dX6_zerosBy_33 : decode cX6_zerosBy 33 = .ok (.iload_n 2, 1) := by decide +kernel
theorem dX6_zerosBy_34 : decode cX6_zerosBy 34 = .ok (.iload 5, 2) := by decide +kernel
theorem dX6_zerosBy_36 : decode cX6_zerosBy 36 = .ok (.bipush 16, 2) := by decide +kernel
theorem dX6_zerosBy_38 : decode cX6_zerosBy 38 = .ok (.idiv, 1) := by decide +kernel
theorem dX6_zerosBy_39 : decode cX6_zerosBy 39 = .ok (.iload 5, 2) := by decide +kernel
theorem dX6_zerosBy_41 : decode cX6_zerosBy 41 = .ok (.bipush 16, 2) := by decide +kernel
theorem dX6_zerosBy_43 : decode cX6_zerosBy 43 = .ok (.irem, 1) := by decide +kernel
theorem dX6_zerosBy_44 : decode cX6_zerosBy 44 = .ok (.invokevirtual 81, 3) := by decide +kernel
theorem dX6_zerosBy_47 : decode cX6_zerosBy 47 = .ok (.imul, 1) := by decide +kernel
theorem dX6_zerosBy_48 : decode cX6_zerosBy 48 = .ok (.iadd, 1) := by decide +kernel
theorem dX6_zerosBy_49 : decode cX6_zerosBy 49 = .ok (.ifCond .ne 7, 3) := by decide +kernel
theorem dX6_zerosBy_52 : decode cX6_zerosBy 52 = .ok (.iconst 1, 1) := by decide +kernel
theorem dX6_zerosBy_53 : decode cX6_zerosBy 53 = .ok (.goto 4, 3) := by decide +kernel
theorem dX6_zerosBy_56 : decode cX6_zerosBy 56 = .ok (.iconst 0, 1) := by decide +kernel
theorem dX6_zerosBy_57 : decode cX6_zerosBy 57 = .ok (.iadd, 1) := by decide +kernel
theorem dX6_zerosBy_58 : decode cX6_zerosBy 58 = .ok (.istore 4, 2) := by decide +kernel
theorem dX6_zerosBy_60 : decode cX6_zerosBy 60 = .ok (.iinc 5 1, 3) := by decide +kernel
theorem dX6_zerosBy_63 : decode cX6_zerosBy 63 = .ok (.goto (-57), 3) := by decide +kernel
theorem dX6_zerosBy_66 : decode cX6_zerosBy 66 = .ok (.iload 4, 2) := by decide +kernel
theorem dX6_zerosBy_68 : decode cX6_zerosBy 68 = .ok (.ireturn, 1) := by decide +kernel
theorem dX6_bestTimes_0 : decode cX6_bestTimes 0 = .ok (.aload_n 0, 1) := by decide +kernel
theorem dX6_bestTimes_1 : decode cX6_bestTimes 1 = .ok (.iconst 0, 1) := by decide +kernel
theorem dX6_bestTimes_2 : decode cX6_bestTimes 2 = .ok (.putfield 41, 3) := by decide +kernel
theorem dX6_bestTimes_5 : decode cX6_bestTimes 5 = .ok (.iload_n 1, 1) := by decide +kernel
theorem dX6_bestTimes_6 : decode cX6_bestTimes 6 = .ok (.invokestatic 104, 3) := by decide +kernel
theorem dX6_bestTimes_9 : decode cX6_bestTimes 9 = .ok (.ifCond .eq 10, 3) := by decide +kernel
theorem dX6_bestTimes_12 : decode cX6_bestTimes 12 = .ok (.iload_n 2, 1) := by decide +kernel
theorem dX6_bestTimes_13 : decode cX6_bestTimes 13 = .ok (.invokestatic 104, 3) := by decide +kernel
theorem dX6_bestTimes_16 : decode cX6_bestTimes 16 = .ok (.ifCond .ne 5, 3) := by decide +kernel
theorem dX6_bestTimes_19 : decode cX6_bestTimes 19 = .ok (.iconst (-1), 1) := by decide +kernel
theorem dX6_bestTimes_20 : decode cX6_bestTimes 20 = .ok (.ireturn, 1) := by decide +kernel
theorem dX6_bestTimes_21 : decode cX6_bestTimes 21 = .ok (.iload_n 3, 1) := by decide +kernel
theorem dX6_bestTimes_22 : decode cX6_bestTimes 22 = .ok (.iconst 0, 1) := by decide +kernel
theorem dX6_bestTimes_23 : decode cX6_bestTimes 23 = .ok (.iconst 1, 1) := by decide +kernel
theorem dX6_bestTimes_24 : decode cX6_bestTimes 24 = .ok (.invokestatic 45, 3) := by decide +kernel
theorem dX6_bestTimes_27 : decode cX6_bestTimes 27 = .ok (.ifCond .eq 8, 3) := by decide +kernel
theorem dX6_bestTimes_30 : decode cX6_bestTimes 30 = .ok (.iload_n 1, 1) := by decide +kernel
theorem dX6_bestTimes_31 : decode cX6_bestTimes 31 = .ok (.iload_n 2, 1) := by decide +kernel
theorem dX6_bestTimes_32 : decode cX6_bestTimes 32 = .ok (.if_icmp .ne 6, 3) := by decide +kernel
theorem dX6_bestTimes_35 : decode cX6_bestTimes 35 = .ok (.bipush (-2), 2) := by decide +kernel
theorem dX6_bestTimes_37 : decode cX6_bestTimes 37 = .ok (.ireturn, 1) := by decide +kernel
theorem dX6_bestTimes_38 : decode cX6_bestTimes 38 = .ok (.iconst 0, 1) := by decide +kernel
theorem dX6_bestTimes_39 : decode cX6_bestTimes 39 = .ok (.istore 4, 2) := by decide +kernel
theorem dX6_bestTimes_41 : decode cX6_bestTimes 41 = .ok (.iconst (-1), 1) := by decide +kernel
theorem dX6_bestTimes_42 : decode cX6_bestTimes 42 = .ok (.istore 5, 2) := by decide +kernel
theorem dX6_bestTimes_44 : decode cX6_bestTimes 44 = .ok (.bipush (-99), 2) := by decide +kernel
theorem dX6_bestTimes_46 : decode cX6_bestTimes 46 = .ok (.istore 6, 2) := by decide +kernel
theorem dX6_bestTimes_48 : decode cX6_bestTimes 48 = .ok (.iload 6, 2) := by decide +kernel
theorem dX6_bestTimes_50 : decode cX6_bestTimes 50 = .ok (.bipush 100, 2) := by decide +kernel
theorem dX6_bestTimes_52 : decode cX6_bestTimes 52 = .ok (.if_icmp .ge 60, 3) := by decide +kernel
theorem dX6_bestTimes_55 : decode cX6_bestTimes 55 = .ok (.iload 6, 2) := by decide +kernel
theorem dX6_bestTimes_57 : decode cX6_bestTimes 57 = .ok (.ifCond .ne 7, 3) := by decide +kernel
theorem dX6_bestTimes_60 : decode cX6_bestTimes 60 = .ok (.iconst (-1), 1) := by decide +kernel
theorem dX6_bestTimes_61 : decode cX6_bestTimes 61 = .ok (.goto 11, 3) := by decide +kernel
theorem dX6_bestTimes_64 : decode cX6_bestTimes 64 = .ok (.aload_n 0, 1) := by decide +kernel
theorem dX6_bestTimes_65 : decode cX6_bestTimes 65 = .ok (.iload_n 1, 1) := by decide +kernel
theorem dX6_bestTimes_66 : decode cX6_bestTimes 66 = .ok (.iload_n 2, 1) := by decide +kernel
theorem dX6_bestTimes_67 : decode cX6_bestTimes 67 = .ok (.iload 6, 2) := by decide +kernel
theorem dX6_bestTimes_69 : decode cX6_bestTimes 69 = .ok (.invokevirtual 190, 3) := by decide +kernel
theorem dX6_bestTimes_72 : decode cX6_bestTimes 72 = .ok (.istore 7, 2) := by decide +kernel
theorem dX6_bestTimes_74 : decode cX6_bestTimes 74 = .ok (.iload 7, 2) := by decide +kernel
theorem dX6_bestTimes_76 : decode cX6_bestTimes 76 = .ok (.iload 5, 2) := by decide +kernel
theorem dX6_bestTimes_78 : decode cX6_bestTimes 78 = .ok (.if_icmp .le 8, 3) := by decide +kernel
theorem dX6_bestTimes_81 : decode cX6_bestTimes 81 = .ok (.iload 6, 2) := by decide +kernel
theorem dX6_bestTimes_83 : decode cX6_bestTimes 83 = .ok (.goto 5, 3) := by decide +kernel
theorem dX6_bestTimes_86 : decode cX6_bestTimes 86 = .ok (.iload 4, 2) := by decide +kernel
theorem dX6_bestTimes_88 : decode cX6_bestTimes 88 = .ok (.istore 4, 2) := by decide +kernel
theorem dX6_bestTimes_90 : decode cX6_bestTimes 90 = .ok (.iload 7, 2) := by decide +kernel
theorem dX6_bestTimes_92 : decode cX6_bestTimes 92 = .ok (.iload 5, 2) := by decide +kernel
theorem dX6_bestTimes_94 : decode cX6_bestTimes 94 = .ok (.if_icmp .le 8, 3) := by decide +kernel
theorem dX6_bestTimes_97 : decode cX6_bestTimes 97 = .ok (.iload 7, 2) := by decide +kernel
theorem dX6_bestTimes_99 : decode cX6_bestTimes 99 = .ok (.goto 5, 3) := by decide +kernel
theorem dX6_bestTimes_102 : decode cX6_bestTimes 102 = .ok (.iload 5, 2) := by decide +kernel
theorem dX6_bestTimes_104 : decode cX6_bestTimes 104 = .ok (.istore 5, 2) := by decide +kernel
theorem dX6_bestTimes_106 : decode cX6_bestTimes 106 = .ok (.iinc 6 1, 3) := by decide +kernel
theorem dX6_bestTimes_109 : decode cX6_bestTimes 109 = .ok (.goto (-61), 3) := by decide +kernel
theorem dX6_bestTimes_112 : decode cX6_bestTimes 112 = .ok (.iload_n 3, 1) := by decide +kernel
theorem dX6_bestTimes_113 : decode cX6_bestTimes 113 = .ok (.ifCond .ne 11, 3) := by decide +kernel
theorem dX6_bestTimes_116 : decode cX6_bestTimes 116 = .ok (.iload 4, 2) := by decide +kernel
theorem dX6_bestTimes_118 : decode cX6_bestTimes 118 = .ok (.bipush 100, 2) := by decide +kernel
theorem dX6_bestTimes_120 : decode cX6_bestTimes 120 = .ok (.iadd, 1) := by decide +kernel
theorem dX6_bestTimes_121 : decode cX6_bestTimes 121 = .ok (.goto 5, 3) := by decide +kernel
theorem dX6_bestTimes_124 : decode cX6_bestTimes 124 = .ok (.iload 5, 2) := by decide +kernel
theorem dX6_bestTimes_126 : decode cX6_bestTimes 126 = .ok (.ireturn, 1) := by decide +kernel
theorem dX6_put_0 : decode cX6_put 0 = .ok (.aload_n 0, 1) := by decide +kernel
theorem dX6_put_1 : decode cX6_put 1 = .ok (.iconst 0, 1) := by decide +kernel
theorem dX6_put_2 : decode cX6_put 2 = .ok (.putfield 41, 3) := by decide +kernel
theorem dX6_put_5 : decode cX6_put 5 = .ok (.iconst 0, 1) := by decide +kernel
theorem dX6_put_6 : decode cX6_put 6 = .ok (.istore_n 3, 1) := by decide +kernel
theorem dX6_put_7 : decode cX6_put 7 = .ok (.lload_n 1, 1) := by decide +kernel
theorem dX6_put_8 : decode cX6_put 8 = .ok (.lstore 4, 2) := by decide +kernel
theorem dX6_put_10 : decode cX6_put 10 = .ok (.iconst 1, 1) := by decide +kernel
theorem dX6_put_11 : decode cX6_put 11 = .ok (.istore 6, 2) := by decide +kernel
theorem dX6_put_13 : decode cX6_put 13 = .ok (.iload_n 3, 1) := by decide +kernel
theorem dX6_put_14 : decode cX6_put 14 = .ok (.bipush 8, 2) := by decide +kernel
theorem dX6_put_16 : decode cX6_put 16 = .ok (.if_icmp .ge 56, 3) := by decide +kernel
theorem dX6_put_19 : decode cX6_put 19 = .ok (.lload 4, 2) := by decide +kernel
theorem dX6_put_21 : decode cX6_put 21 = .ok (.ldc2_w 193, 3) := by decide +kernel
theorem dX6_put_24 : decode cX6_put 24 = .ok (.land, 1) := by decide +kernel
theorem dX6_put_25 : decode cX6_put 25 = .ok (.lconst 0, 1) := by decide +kernel
theorem dX6_put_26 : decode cX6_put 26 = .ok (.lcmp, 1) := by decide +kernel
theorem dX6_put_27 : decode cX6_put 27 = .ok (.ifCond .eq 45, 3) := by decide +kernel
theorem dX6_put_30 : decode cX6_put 30 = .ok (.iload 6, 2) := by decide +kernel
theorem dX6_put_32 : decode cX6_put 32 = .ok (.ifCond .eq 24, 3) := by decide +kernel
theorem dX6_put_35 : decode cX6_put 35 = .ok (.lload 4, 2) := by decide +kernel
theorem dX6_put_37 : decode cX6_put 37 = .ok (.ldc2_w 193, 3) := by decide +kernel
theorem dX6_put_40 : decode cX6_put 40 = .ok (.land, 1) := by decide +kernel
theorem dX6_put_41 : decode cX6_put 41 = .ok (.l2i, 1) := by decide +kernel
theorem dX6_put_42 : decode cX6_put 42 = .ok (.bipush 33, 2) := by decide +kernel
theorem dX6_put_44 : decode cX6_put 44 = .ok (.bipush 126, 2) := by decide +kernel
theorem dX6_put_46 : decode cX6_put 46 = .ok (.invokestatic 45, 3) := by decide +kernel
theorem dX6_put_49 : decode cX6_put 49 = .ok (.ifCond .eq 7, 3) := by decide +kernel
theorem dX6_put_52 : decode cX6_put 52 = .ok (.iconst 1, 1) := by decide +kernel
theorem dX6_put_53 : decode cX6_put 53 = .ok (.goto 4, 3) := by decide +kernel
theorem dX6_put_56 : decode cX6_put 56 = .ok (.iconst 0, 1) := by decide +kernel
theorem dX6_put_57 : decode cX6_put 57 = .ok (.istore 6, 2) := by decide +kernel
theorem dX6_put_59 : decode cX6_put 59 = .ok (.lload 4, 2) := by decide +kernel
theorem dX6_put_61 : decode cX6_put 61 = .ok (.bipush 8, 2) := by decide +kernel
theorem dX6_put_63 : decode cX6_put 63 = .ok (.lushr, 1) := by decide +kernel
theorem dX6_put_64 : decode cX6_put 64 = .ok (.lstore 4, 2) := by decide +kernel
theorem dX6_put_66 : decode cX6_put 66 = .ok (.iinc 3 1, 3) := by decide +kernel
theorem dX6_put_69 : decode cX6_put 69 = .ok (.goto (-56), 3) := by decide +kernel
theorem dX6_put_72 : decode cX6_put 72 = .ok (.iload_n 3, 1) := by decide +kernel
theorem dX6_put_73 : decode cX6_put 73 = .ok (.ifCond .eq 15, 3) := by decide +kernel
theorem dX6_put_76 : decode cX6_put 76 = .ok (.iload 6, 2) := by decide +kernel
theorem dX6_put_78 : decode cX6_put 78 = .ok (.ifCond .eq 10, 3) := by decide +kernel
theorem dX6_put_81 : decode cX6_put 81 = .ok (.lload 4, 2) := by decide +kernel
theorem dX6_put_83 : decode cX6_put 83 = .ok (.lconst 0, 1) := by decide +kernel
theorem dX6_put_84 : decode cX6_put 84 = .ok (.lcmp, 1) := by decide +kernel
theorem dX6_put_85 : decode cX6_put 85 = .ok (.ifCond .eq 6, 3) := by decide +kernel
theorem dX6_put_88 : decode cX6_put 88 = .ok (.bipush (-2), 2) := by decide +kernel
theorem dX6_put_90 : decode cX6_put 90 = .ok (.ireturn, 1) := by decide +kernel
theorem dX6_put_91 : decode cX6_put 91 = .ok (.aload_n 0, 1) := by decide +kernel
theorem dX6_put_92 : decode cX6_put 92 = .ok (.getfield 115, 3) := by decide +kernel
theorem dX6_put_95 : decode cX6_put 95 = .ok (.iload_n 3, 1) := by decide +kernel
theorem dX6_put_96 : decode cX6_put 96 = .ok (.iadd, 1) := by decide +kernel
theorem dX6_put_97 : decode cX6_put 97 = .ok (.bipush 80, 2) := by decide +kernel
theorem dX6_put_99 : decode cX6_put 99 = .ok (.if_icmp .le 6, 3) := by decide +kernel
theorem dX6_put_102 : decode cX6_put 102 = .ok (.bipush (-4), 2) := by decide +kernel
theorem dX6_put_104 : decode cX6_put 104 = .ok (.ireturn, 1) := by decide +kernel
theorem dX6_put_105 : decode cX6_put 105 = .ok (.iconst 0, 1) := by decide +kernel
theorem dX6_put_106 : decode cX6_put 106 = .ok (.istore 7, 2) := by decide +kernel
theorem dX6_put_108 : decode cX6_put 108 = .ok (.iload 7, 2) := by decide +kernel
theorem dX6_put_110 : decode cX6_put 110 = .ok (.iload_n 3, 1) := by decide +kernel
theorem dX6_put_111 : decode cX6_put 111 = .ok (.if_icmp .ge 37, 3) := by decide +kernel
theorem dX6_put_114 : decode cX6_put 114 = .ok (.aload_n 0, 1) := by decide +kernel
theorem dX6_put_115 : decode cX6_put 115 = .ok (.getfield 26, 3) := by decide +kernel
theorem dX6_put_118 : decode cX6_put 118 = .ok (.aload_n 0, 1) := by decide +kernel
theorem dX6_put_119 : decode cX6_put 119 = .ok (.getfield 115, 3) := by decide +kernel
theorem dX6_put_122 : decode cX6_put 122 = .ok (.iload 7, 2) := by decide +kernel
theorem dX6_put_124 : decode cX6_put 124 = .ok (.iadd, 1) := by decide +kernel
theorem dX6_put_125 : decode cX6_put 125 = .ok (.lload_n 1, 1) := by decide +kernel
theorem dX6_put_126 : decode cX6_put 126 = .ok (.bipush 8, 2) := by decide +kernel
theorem dX6_put_128 : decode cX6_put 128 = .ok (.iload_n 3, 1) := by decide +kernel
theorem dX6_put_129 : decode cX6_put 129 = .ok (.iconst 1, 1) := by decide +kernel
theorem dX6_put_130 : decode cX6_put 130 = .ok (.isub, 1) := by decide +kernel
theorem dX6_put_131 : decode cX6_put 131 = .ok (.iload 7, 2) := by decide +kernel
theorem dX6_put_133 : decode cX6_put 133 = .ok (.isub, 1) := by decide +kernel
theorem dX6_put_134 : decode cX6_put 134 = .ok (.imul, 1) := by decide +kernel
theorem dX6_put_135 : decode cX6_put 135 = .ok (.lushr, 1) := by decide +kernel
theorem dX6_put_136 : decode cX6_put 136 = .ok (.ldc2_w 193, 3) := by decide +kernel
theorem dX6_put_139 : decode cX6_put 139 = .ok (.land, 1) := by decide +kernel
theorem dX6_put_140 : decode cX6_put 140 = .ok (.l2i, 1) := by decide +kernel
theorem dX6_put_141 : decode cX6_put 141 = .ok (.iastore, 1) := by decide +kernel
theorem dX6_put_142 : decode cX6_put 142 = .ok (.iinc 7 1, 3) := by decide +kernel
theorem dX6_put_145 : decode cX6_put 145 = .ok (.goto (-37), 3) := by decide +kernel
theorem dX6_put_148 : decode cX6_put 148 = .ok (.aload_n 0, 1) := by decide +kernel
theorem dX6_put_149 : decode cX6_put 149 = .ok (.dup, 1) := by decide +kernel
theorem dX6_put_150 : decode cX6_put 150 = .ok (.getfield 115, 3) := by decide +kernel
theorem dX6_put_153 : decode cX6_put 153 = .ok (.iload_n 3, 1) := by decide +kernel
theorem dX6_put_154 : decode cX6_put 154 = .ok (.iadd, 1) := by decide +kernel
theorem dX6_put_155 : decode cX6_put 155 = .ok (.putfield 115, 3) := by decide +kernel
theorem dX6_put_158 : decode cX6_put 158 = .ok (.aload_n 0, 1) := by decide +kernel
theorem dX6_put_159 : decode cX6_put 159 = .ok (.getfield 115, 3) := by decide +kernel
theorem dX6_put_162 : decode cX6_put 162 = .ok (.ireturn, 1) := by decide +kernel
theorem dX6_wipe_0 : decode cX6_wipe 0 = .ok (.aload_n 0, 1) := by decide +kernel
theorem dX6_wipe_1 : decode cX6_wipe 1 = .ok (.iconst 0, 1) := by decide +kernel
theorem dX6_wipe_2 : decode cX6_wipe 2 = .ok (.putfield 41, 3) := by decide +kernel
theorem dX6_wipe_5 : decode cX6_wipe 5 = .ok (.aload_n 0, 1) := by decide +kernel
theorem dX6_wipe_6 : decode cX6_wipe 6 = .ok (.getfield 115, 3) := by decide +kernel
theorem dX6_wipe_9 : decode cX6_wipe 9 = .ok (.istore_n 1, 1) := by decide +kernel
theorem dX6_wipe_10 : decode cX6_wipe 10 = .ok (.aload_n 0, 1) := by decide +kernel
theorem dX6_wipe_11 : decode cX6_wipe 11 = .ok (.iconst 0, 1) := by decide +kernel
theorem dX6_wipe_12 : decode cX6_wipe 12 = .ok (.putfield 115, 3) := by decide +kernel
theorem dX6_wipe_15 : decode cX6_wipe 15 = .ok (.iload_n 1, 1) := by decide +kernel
theorem dX6_wipe_16 : decode cX6_wipe 16 = .ok (.ireturn, 1) := by decide +kernel
theorem dX6_letter_0 : decode cX6_letter 0 = .ok (.aload_n 0, 1) := by decide +kernel
theorem dX6_letter_1 : decode cX6_letter 1 = .ok (.getfield 195, 3) := by decide +kernel
theorem dX6_letter_4 : decode cX6_letter 4 = .ok (.aload_n 0, 1) := by decide +kernel
theorem dX6_letter_5 : decode cX6_letter 5 = .ok (.getfield 115, 3) := by decide +kernel
theorem dX6_letter_8 : decode cX6_letter 8 = .ok (.if_icmp .ge 15, 3) := by decide +kernel
theorem dX6_letter_11 : decode cX6_letter 11 = .ok (.aload_n 0, 1) := by decide +kernel
theorem dX6_letter_12 : decode cX6_letter 12 = .ok (.getfield 26, 3) := by decide +kernel
theorem dX6_letter_15 : decode cX6_letter 15 = .ok (.aload_n 0, 1) := by decide +kernel
theorem dX6_letter_16 : decode cX6_letter 16 = .ok (.getfield 195, 3) := by decide +kernel
theorem dX6_letter_19 : decode cX6_letter 19 = .ok (.iaload, 1) := by decide +kernel
theorem dX6_letter_20 : decode cX6_letter 20 = .ok (.goto 4, 3) := by decide +kernel
theorem dX6_letter_23 : decode cX6_letter 23 = .ok (.iconst 0, 1) := by decide +kernel
theorem dX6_letter_24 : decode cX6_letter 24 = .ok (.ireturn, 1) := by decide +kernel
theorem dX6_wants_0 : decode cX6_wants 0 = .ok (.aload_n 0, 1) := by decide +kernel
theorem dX6_wants_1 : decode cX6_wants 1 = .ok (.aload_n 0, 1) := by decide +kernel
theorem dX6_wants_2 : decode cX6_wants 2 = .ok (.getfield 198, 3) := by decide +kernel
theorem dX6_wants_5 : decode cX6_wants 5 = .ok (.ifCond .eq 15, 3) := by decide +kernel
theorem dX6_wants_8 : decode cX6_wants 8 = .ok (.aload_n 0, 1) := by decide +kernel
theorem dX6_wants_9 : decode cX6_wants 9 = .ok (.invokevirtual 202, 3) := by decide +kernel
theorem dX6_wants_12 : decode cX6_wants 12 = .ok (.iload_n 1, 1) := by decide +kernel
theorem dX6_wants_13 : decode cX6_wants 13 = .ok (.if_icmp .ne 7, 3) := by decide +kernel
theorem dX6_wants_16 : decode cX6_wants 16 = .ok (.iconst 1, 1) := by decide +kernel
theorem dX6_wants_17 : decode cX6_wants 17 = .ok (.goto 4, 3) := by decide +kernel
theorem dX6_wants_20 : decode cX6_wants 20 = .ok (.iconst 0, 1) := by decide +kernel
theorem dX6_wants_21 : decode cX6_wants 21 = .ok (.putfield 198, 3) := by decide +kernel
theorem dX6_wants_24 : decode cX6_wants 24 = .ok (.aload_n 0, 1) := by decide +kernel
theorem dX6_wants_25 : decode cX6_wants 25 = .ok (.dup, 1) := by decide +kernel
theorem dX6_wants_26 : decode cX6_wants 26 = .ok (.getfield 195, 3) := by decide +kernel
theorem dX6_wants_29 : decode cX6_wants 29 = .ok (.aload_n 0, 1) := by decide +kernel
theorem dX6_wants_30 : decode cX6_wants 30 = .ok (.getfield 198, 3) := by decide +kernel
theorem dX6_wants_33 : decode cX6_wants 33 = .ok (.ifCond .eq 7, 3) := by decide +kernel
theorem dX6_wants_36 : decode cX6_wants 36 = .ok (.iconst 1, 1) := by decide +kernel
theorem dX6_wants_37 : decode cX6_wants 37 = .ok (.goto 4, 3) := by decide +kernel
theorem dX6_wants_40 : decode cX6_wants 40 = .ok (.iconst 0, 1) := by decide +kernel
theorem dX6_wants_41 : decode cX6_wants 41 = .ok (.iadd, 1) := by decide +kernel
theorem dX6_wants_42 : decode cX6_wants 42 = .ok (.putfield 195, 3) := by decide +kernel
theorem dX6_wants_45 : decode cX6_wants 45 = .ok (.return_, 1) := by decide +kernel
theorem dX6_number_0 : decode cX6_number 0 = .ok (.aload_n 0, 1) := by decide +kernel
theorem dX6_number_1 : decode cX6_number 1 = .ok (.aload_n 0, 1) := by decide +kernel
theorem dX6_number_2 : decode cX6_number 2 = .ok (.getfield 198, 3) := by decide +kernel
theorem dX6_number_5 : decode cX6_number 5 = .ok (.ifCond .eq 21, 3) := by decide +kernel
theorem dX6_number_8 : decode cX6_number 8 = .ok (.aload_n 0, 1) := by decide +kernel
theorem dX6_number_9 : decode cX6_number 9 = .ok (.invokevirtual 202, 3) := by decide +kernel
theorem dX6_number_12 : decode cX6_number 12 = .ok (.bipush 48, 2) := by decide +kernel
theorem dX6_number_14 : decode cX6_number 14 = .ok (.bipush 57, 2) := by decide +kernel
theorem dX6_number_16 : decode cX6_number 16 = .ok (.invokestatic 45, 3) := by decide +kernel
theorem dX6_number_19 : decode cX6_number 19 = .ok (.ifCond .eq 7, 3) := by decide +kernel
theorem dX6_number_22 : decode cX6_number 22 = .ok (.iconst 1, 1) := by decide +kernel
theorem dX6_number_23 : decode cX6_number 23 = .ok (.goto 4, 3) := by decide +kernel
theorem dX6_number_26 : decode cX6_number 26 = .ok (.iconst 0, 1) := by decide +kernel
theorem dX6_number_27 : decode cX6_number 27 = .ok (.putfield 198, 3) := by decide +kernel
theorem dX6_number_30 : decode cX6_number 30 = .ok (.aload_n 0, 1) := by decide +kernel
theorem dX6_number_31 : decode cX6_number 31 = .ok (.invokevirtual 202, 3) := by decide +kernel
theorem dX6_number_34 : decode cX6_number 34 = .ok (.bipush 48, 2) := by decide +kernel
theorem dX6_number_36 : decode cX6_number 36 = .ok (.isub, 1) := by decide +kernel
theorem dX6_number_37 : decode cX6_number 37 = .ok (.istore_n 1, 1) := by decide +kernel
theorem dX6_number_38 : decode cX6_number 38 = .ok (.aload_n 0, 1) := by decide +kernel
theorem dX6_number_39 : decode cX6_number 39 = .ok (.dup, 1) := by decide +kernel
theorem dX6_number_40 : decode cX6_number 40 = .ok (.getfield 195, 3) := by decide +kernel
theorem dX6_number_43 : decode cX6_number 43 = .ok (.aload_n 0, 1) := by decide +kernel
theorem dX6_number_44 : decode cX6_number 44 = .ok (.getfield 198, 3) := by decide +kernel
theorem dX6_number_47 : decode cX6_number 47 = .ok (.ifCond .eq 7, 3) := by decide +kernel
theorem dX6_number_50 : decode cX6_number 50 = .ok (.iconst 1, 1) := by decide +kernel
theorem dX6_number_51 : decode cX6_number 51 = .ok (.goto 4, 3) := by decide +kernel
theorem dX6_number_54 : decode cX6_number 54 = .ok (.iconst 0, 1) := by decide +kernel
theorem dX6_number_55 : decode cX6_number 55 = .ok (.iadd, 1) := by decide +kernel
theorem dX6_number_56 : decode cX6_number 56 = .ok (.putfield 195, 3) := by decide +kernel
theorem dX6_number_59 : decode cX6_number 59 = .ok (.aload_n 0, 1) := by decide +kernel
theorem dX6_number_60 : decode cX6_number 60 = .ok (.getfield 198, 3) := by decide +kernel
theorem dX6_number_63 : decode cX6_number 63 = .ok (.ifCond .eq 74, 3) := by decide +kernel
theorem dX6_number_66 : decode cX6_number 66 = .ok (.iload_n 1, 1) := by decide +kernel
theorem dX6_number_67 : decode cX6_number 67 = .ok (.ifCond .le 70, 3) := by decide +kernel
theorem dX6_number_70 : decode cX6_number 70 = .ok (.aload_n 0, 1) := by decide +kernel
theorem dX6_number_71 : decode cX6_number 71 = .ok (.invokevirtual 202, 3) := by decide +kernel
theorem dX6_number_74 : decode cX6_number 74 = .ok (.bipush 48, 2) := by decide +kernel
theorem dX6_number_76 : decode cX6_number 76 = .ok (.bipush 57, 2) := by decide +kernel
theorem dX6_number_78 : decode cX6_number 78 = .ok (.invokestatic 45, 3) := by decide +kernel
theorem dX6_number_81 : decode cX6_number 81 = .ok (.ifCond .eq 56, 3) := by decide +kernel
theorem dX6_number_84 : decode cX6_number 84 = .ok (.bipush 10, 2) := by decide +kernel
theorem dX6_number_86 : decode cX6_number 86 = .ok (.iload_n 1, 1) := by decide +kernel
theorem dX6_number_87 : decode cX6_number 87 = .ok (.imul, 1) := by decide +kernel
theorem dX6_number_88 : decode cX6_number 88 = .ok (.aload_n 0, 1) := by decide +kernel
theorem dX6_number_89 : decode cX6_number 89 = .ok (.invokevirtual 202, 3) := by decide +kernel
theorem dX6_number_92 : decode cX6_number 92 = .ok (.iadd, 1) := by decide +kernel
theorem dX6_number_93 : decode cX6_number 93 = .ok (.bipush 48, 2) := by decide +kernel
theorem dX6_number_95 : decode cX6_number 95 = .ok (.isub, 1) := by decide +kernel
theorem dX6_number_96 : decode cX6_number 96 = .ok (.istore_n 1, 1) := by decide +kernel
theorem dX6_number_97 : decode cX6_number 97 = .ok (.aload_n 0, 1) := by decide +kernel
theorem dX6_number_98 : decode cX6_number 98 = .ok (.iload_n 1, 1) := by decide +kernel
theorem dX6_number_99 : decode cX6_number 99 = .ok (.sipush 999, 3) := by decide +kernel
theorem dX6_number_102 : decode cX6_number 102 = .ok (.if_icmp .gt 7, 3) := by decide +kernel
theorem dX6_number_105 : decode cX6_number 105 = .ok (.iconst 1, 1) := by decide +kernel
theorem dX6_number_106 : decode cX6_number 106 = .ok (.goto 4, 3) := by decide +kernel
theorem dX6_number_109 : decode cX6_number 109 = .ok (.iconst 0, 1) := by decide +kernel
theorem dX6_number_110 : decode cX6_number 110 = .ok (.putfield 198, 3) := by decide +kernel
theorem dX6_number_113 : decode cX6_number 113 = .ok (.aload_n 0, 1) := by decide +kernel
theorem dX6_number_114 : decode cX6_number 114 = .ok (.dup, 1) := by decide +kernel
theorem dX6_number_115 : decode cX6_number 115 = .ok (.getfield 195, 3) := by decide +kernel
theorem dX6_number_118 : decode cX6_number 118 = .ok (.aload_n 0, 1) := by decide +kernel
theorem dX6_number_119 : decode cX6_number 119 = .ok (.getfield 198, 3) := by decide +kernel
theorem dX6_number_122 : decode cX6_number 122 = .ok (.ifCond .eq 7, 3) := by decide +kernel
theorem dX6_number_125 : decode cX6_number 125 = .ok (.iconst 1, 1) := by decide +kernel
theorem dX6_number_126 : decode cX6_number 126 = .ok (.goto 4, 3) := by decide +kernel
theorem dX6_number_129 : decode cX6_number 129 = .ok (.iconst 0, 1) := by decide +kernel
theorem dX6_number_130 : decode cX6_number 130 = .ok (.iadd, 1) := by decide +kernel
theorem dX6_number_131 : decode cX6_number 131 = .ok (.putfield 195, 3) := by decide +kernel
theorem dX6_number_134 : decode cX6_number 134 = .ok (.goto (-75), 3) := by decide +kernel
theorem dX6_number_137 : decode cX6_number 137 = .ok (.iload_n 1, 1) := by decide +kernel
theorem dX6_number_138 : decode cX6_number 138 = .ok (.ireturn, 1) := by decide +kernel
theorem dX6_value_0 : decode cX6_value 0 = .ok (.aload_n 0, 1) := by decide +kernel
theorem dX6_value_1 : decode cX6_value 1 = .ok (.getfield 198, 3) := by decide +kernel
theorem dX6_value_4 : decode cX6_value 4 = .ok (.ifCond .eq 16, 3) := by decide +kernel
theorem dX6_value_7 : decode cX6_value 7 = .ok (.aload_n 0, 1) := by decide +kernel
theorem dX6_value_8 : decode cX6_value 8 = .ok (.invokevirtual 202, 3) := by decide +kernel
theorem dX6_value_11 : decode cX6_value 11 = .ok (.bipush 45, 2) := by decide +kernel
theorem dX6_value_13 : decode cX6_value 13 = .ok (.if_icmp .ne 7, 3) := by decide +kernel
theorem dX6_value_16 : decode cX6_value 16 = .ok (.iconst 1, 1) := by decide +kernel
theorem dX6_value_17 : decode cX6_value 17 = .ok (.goto 4, 3) := by decide +kernel
theorem dX6_value_20 : decode cX6_value 20 = .ok (.iconst 0, 1) := by decide +kernel
theorem dX6_value_21 : decode cX6_value 21 = .ok (.istore_n 1, 1) := by decide +kernel
theorem dX6_value_22 : decode cX6_value 22 = .ok (.aload_n 0, 1) := by decide +kernel
theorem dX6_value_23 : decode cX6_value 23 = .ok (.dup, 1) := by decide +kernel
theorem dX6_value_24 : decode cX6_value 24 = .ok (.getfield 195, 3) := by decide +kernel
theorem dX6_value_27 : decode cX6_value 27 = .ok (.iload_n 1, 1) := by decide +kernel
theorem dX6_value_28 : decode cX6_value 28 = .ok (.ifCond .eq 7, 3) := by decide +kernel
theorem dX6_value_31 : decode cX6_value 31 = .ok (.iconst 1, 1) := by decide +kernel
theorem dX6_value_32 : decode cX6_value 32 = .ok (.goto 4, 3) := by decide +kernel
theorem dX6_value_35 : decode cX6_value 35 = .ok (.iconst 0, 1) := by decide +kernel
theorem dX6_value_36 : decode cX6_value 36 = .ok (.iadd, 1) := by decide +kernel
theorem dX6_value_37 : decode cX6_value 37 = .ok (.putfield 195, 3) := by decide +kernel
theorem dX6_value_40 : decode cX6_value 40 = .ok (.aload_n 0, 1) := by decide +kernel
theorem dX6_value_41 : decode cX6_value 41 = .ok (.invokevirtual 205, 3) := by decide +kernel
theorem dX6_value_44 : decode cX6_value 44 = .ok (.istore_n 2, 1) := by decide +kernel
theorem dX6_value_45 : decode cX6_value 45 = .ok (.iload_n 1, 1) := by decide +kernel
theorem dX6_value_46 : decode cX6_value 46 = .ok (.ifCond .eq 8, 3) := by decide +kernel
theorem dX6_value_49 : decode cX6_value 49 = .ok (.iload_n 2, 1) := by decide +kernel
theorem dX6_value_50 : decode cX6_value 50 = .ok (.ineg, 1) := by decide +kernel
theorem dX6_value_51 : decode cX6_value 51 = .ok (.goto 4, 3) := by decide +kernel
theorem dX6_value_54 : decode cX6_value 54 = .ok (.iload_n 2, 1) := by decide +kernel
theorem dX6_value_55 : decode cX6_value 55 = .ok (.ireturn, 1) := by decide +kernel
theorem dX6_readsValues_0 : decode cX6_readsValues 0 = .ok (.iconst 0, 1) := by decide +kernel
theorem dX6_readsValues_1 : decode cX6_readsValues 1 = .ok (.istore_n 2, 1) := by decide +kernel
theorem dX6_readsValues_2 : decode cX6_readsValues 2 = .ok (.aload_n 0, 1) := by decide +kernel
theorem dX6_readsValues_3 : decode cX6_readsValues 3 = .ok (.invokevirtual 208, 3) := by decide +kernel
theorem dX6_readsValues_6 : decode cX6_readsValues 6 = .ok (.istore_n 3, 1) := by decide +kernel
theorem dX6_readsValues_7 : decode cX6_readsValues 7 = .ok (.iconst 0, 1) := by decide +kernel
theorem dX6_readsValues_8 : decode cX6_readsValues 8 = .ok (.istore 4, 2) := by decide +kernel
theorem dX6_readsValues_10 : decode cX6_readsValues 10 = .ok (.iload 4, 2) := by decide +kernel
theorem dX6_readsValues_12 : decode cX6_readsValues 12 = .ok (.iload_n 1, 1) := by decide +kernel
theorem dX6_readsValues_13 : decode cX6_readsValues 13 = .ok (.if_icmp .ge 17, 3) := by decide +kernel
theorem dX6_readsValues_16 : decode cX6_readsValues 16 = .ok (.aload_n 0, 1) := by decide +kernel
theorem dX6_readsValues_17 : decode cX6_readsValues 17 = .ok (.getfield 32, 3) := by decide +kernel
theorem dX6_readsValues_20 : decode cX6_readsValues 20 = .ok (.iload 4, 2) := by decide +kernel
theorem dX6_readsValues_22 : decode cX6_readsValues 22 = .ok (.iload_n 3, 1) := by decide +kernel
theorem dX6_readsValues_23 : decode cX6_readsValues 23 = .ok (.iastore, 1) := by decide +kernel
theorem dX6_readsValues_24 : decode cX6_readsValues 24 = .ok (.iinc 4 1, 3) := by decide +kernel
theorem dX6_readsValues_27 : decode cX6_readsValues 27 = .ok (.goto (-17), 3) := by decide +kernel
theorem dX6_readsValues_30 : decode cX6_readsValues 30 = .ok (.aload_n 0, 1) := by decide +kernel
theorem dX6_readsValues_31 : decode cX6_readsValues 31 = .ok (.getfield 198, 3) := by decide +kernel
theorem dX6_readsValues_34 : decode cX6_readsValues 34 = .ok (.ifCond .eq 56, 3) := by decide +kernel
theorem dX6_readsValues_37 : decode cX6_readsValues 37 = .ok (.aload_n 0, 1) := by decide +kernel
theorem dX6_readsValues_38 : decode cX6_readsValues 38 = .ok (.invokevirtual 202, 3) := by decide +kernel
theorem dX6_readsValues_41 : decode cX6_readsValues 41 = .ok (.bipush 44, 2) := by decide +kernel
theorem dX6_readsValues_43 : decode cX6_readsValues 43 = .ok (.if_icmp .ne 47, 3) := by decide +kernel
theorem dX6_readsValues_46 : decode cX6_readsValues 46 = .ok (.aload_n 0, 1) := by decide +kernel
theorem dX6_readsValues_47 : decode cX6_readsValues 47 = .ok (.dup, 1) := by decide +kernel
theorem dX6_readsValues_48 : decode cX6_readsValues 48 = .ok (.getfield 195, 3) := by decide +kernel
theorem dX6_readsValues_51 : decode cX6_readsValues 51 = .ok (.iconst 1, 1) := by decide +kernel
theorem dX6_readsValues_52 : decode cX6_readsValues 52 = .ok (.iadd, 1) := by decide +kernel
theorem dX6_readsValues_53 : decode cX6_readsValues 53 = .ok (.putfield 195, 3) := by decide +kernel
theorem dX6_readsValues_56 : decode cX6_readsValues 56 = .ok (.iinc 2 1, 3) := by decide +kernel
theorem dX6_readsValues_59 : decode cX6_readsValues 59 = .ok (.aload_n 0, 1) := by decide +kernel
theorem dX6_readsValues_60 : decode cX6_readsValues 60 = .ok (.invokevirtual 208, 3) := by decide +kernel
theorem dX6_readsValues_63 : decode cX6_readsValues 63 = .ok (.istore_n 3, 1) := by decide +kernel
theorem dX6_readsValues_64 : decode cX6_readsValues 64 = .ok (.iload_n 2, 1) := by decide +kernel
theorem dX6_readsValues_65 : decode cX6_readsValues 65 = .ok (.istore 4, 2) := by decide +kernel
theorem dX6_readsValues_67 : decode cX6_readsValues 67 = .ok (.iload 4, 2) := by decide +kernel
theorem dX6_readsValues_69 : decode cX6_readsValues 69 = .ok (.iload_n 1, 1) := by decide +kernel
theorem dX6_readsValues_70 : decode cX6_readsValues 70 = .ok (.if_icmp .ge 17, 3) := by decide +kernel
theorem dX6_readsValues_73 : decode cX6_readsValues 73 = .ok (.aload_n 0, 1) := by decide +kernel
theorem dX6_readsValues_74 : decode cX6_readsValues 74 = .ok (.getfield 32, 3) := by decide +kernel
theorem dX6_readsValues_77 : decode cX6_readsValues 77 = .ok (.iload 4, 2) := by decide +kernel
theorem dX6_readsValues_79 : decode cX6_readsValues 79 = .ok (.iload_n 3, 1) := by decide +kernel
theorem dX6_readsValues_80 : decode cX6_readsValues 80 = .ok (.iastore, 1) := by decide +kernel
theorem dX6_readsValues_81 : decode cX6_readsValues 81 = .ok (.iinc 4 1, 3) := by decide +kernel
theorem dX6_readsValues_84 : decode cX6_readsValues 84 = .ok (.goto (-17), 3) := by decide +kernel
theorem dX6_readsValues_87 : decode cX6_readsValues 87 = .ok (.goto (-57), 3) := by decide +kernel
theorem dX6_readsValues_90 : decode cX6_readsValues 90 = .ok (.return_, 1) := by decide +kernel
theorem dX6_laysRead_0 : decode cX6_laysRead 0 = .ok (.aload_n 0, 1) := by decide +kernel
theorem dX6_laysRead_1 : decode cX6_laysRead 1 = .ok (.getfield 211, 3) := by decide +kernel
theorem dX6_laysRead_4 : decode cX6_laysRead 4 = .ok (.invokestatic 67, 3) := by decide +kernel
theorem dX6_laysRead_7 : decode cX6_laysRead 7 = .ok (.istore_n 2, 1) := by decide +kernel
theorem dX6_laysRead_8 : decode cX6_laysRead 8 = .ok (.aload_n 0, 1) := by decide +kernel
theorem dX6_laysRead_9 : decode cX6_laysRead 9 = .ok (.getfield 29, 3) := by decide +kernel
theorem dX6_laysRead_12 : decode cX6_laysRead 12 = .ok (.aload_n 0, 1) := by decide +kernel
theorem dX6_laysRead_13 : decode cX6_laysRead 13 = .ok (.getfield 211, 3) := by decide +kernel
theorem dX6_laysRead_16 : decode cX6_laysRead 16 = .ok (.aload_n 0, 1) := by decide +kernel
theorem dX6_laysRead_17 : decode cX6_laysRead 17 = .ok (.getfield 214, 3) := by decide +kernel
theorem dX6_laysRead_20 : decode cX6_laysRead 20 = .ok (.aload_n 0, 1) := by decide +kernel
theorem dX6_laysRead_21 : decode cX6_laysRead 21 = .ok (.getfield 217, 3) := by decide +kernel
theorem dX6_laysRead_24 : decode cX6_laysRead 24 = .ok (.invokestatic 49, 3) := by decide +kernel
theorem dX6_laysRead_27 : decode cX6_laysRead 27 = .ok (.iload_n 1, 1) := by decide +kernel
theorem dX6_laysRead_28 : decode cX6_laysRead 28 = .ok (.iastore, 1) := by decide +kernel
theorem dX6_laysRead_29 : decode cX6_laysRead 29 = .ok (.iconst 0, 1) := by decide +kernel
theorem dX6_laysRead_30 : decode cX6_laysRead 30 = .ok (.istore_n 3, 1) := by decide +kernel
theorem dX6_laysRead_31 : decode cX6_laysRead 31 = .ok (.iload_n 3, 1) := by decide +kernel
theorem dX6_laysRead_32 : decode cX6_laysRead 32 = .ok (.iload_n 2, 1) := by decide +kernel
theorem dX6_laysRead_33 : decode cX6_laysRead 33 = .ok (.iload_n 2, 1) := by decide +kernel
theorem dX6_laysRead_34 : decode cX6_laysRead 34 = .ok (.imul, 1) := by decide +kernel
theorem dX6_laysRead_35 : decode cX6_laysRead 35 = .ok (.if_icmp .ge 84, 3) := by decide +kernel
theorem dX6_laysRead_38 : decode cX6_laysRead 38 = .ok (.bipush 85, 2) := by decide +kernel
theorem dX6_laysRead_40 : decode cX6_laysRead 40 = .ok (.bipush 16, 2) := by decide +kernel
theorem dX6_laysRead_42 : decode cX6_laysRead 42 = .ok (.aload_n 0, 1) := by decide +kernel
theorem dX6_laysRead_43 : decode cX6_laysRead 43 = .ok (.getfield 214, 3) := by decide +kernel
theorem dX6_laysRead_46 : decode cX6_laysRead 46 = .ok (.iload_n 2, 1) := by decide +kernel
theorem dX6_laysRead_47 : decode cX6_laysRead 47 = .ok (.imul, 1) := by decide +kernel
theorem dX6_laysRead_48 : decode cX6_laysRead 48 = .ok (.iload_n 3, 1) := by decide +kernel
theorem dX6_laysRead_49 : decode cX6_laysRead 49 = .ok (.iload_n 2, 1) := by decide +kernel
theorem dX6_laysRead_50 : decode cX6_laysRead 50 = .ok (.idiv, 1) := by decide +kernel
theorem dX6_laysRead_51 : decode cX6_laysRead 51 = .ok (.iadd, 1) := by decide +kernel
theorem dX6_laysRead_52 : decode cX6_laysRead 52 = .ok (.imul, 1) := by decide +kernel
theorem dX6_laysRead_53 : decode cX6_laysRead 53 = .ok (.iadd, 1) := by decide +kernel
theorem dX6_laysRead_54 : decode cX6_laysRead 54 = .ok (.aload_n 0, 1) := by decide +kernel
theorem dX6_laysRead_55 : decode cX6_laysRead 55 = .ok (.getfield 217, 3) := by decide +kernel
theorem dX6_laysRead_58 : decode cX6_laysRead 58 = .ok (.iload_n 2, 1) := by decide +kernel
theorem dX6_laysRead_59 : decode cX6_laysRead 59 = .ok (.imul, 1) := by decide +kernel
theorem dX6_laysRead_60 : decode cX6_laysRead 60 = .ok (.iadd, 1) := by decide +kernel
theorem dX6_laysRead_61 : decode cX6_laysRead 61 = .ok (.iload_n 3, 1) := by decide +kernel
theorem dX6_laysRead_62 : decode cX6_laysRead 62 = .ok (.iload_n 2, 1) := by decide +kernel
theorem dX6_laysRead_63 : decode cX6_laysRead 63 = .ok (.irem, 1) := by decide +kernel
theorem dX6_laysRead_64 : decode cX6_laysRead 64 = .ok (.iadd, 1) := by decide +kernel
theorem dX6_laysRead_65 : decode cX6_laysRead 65 = .ok (.istore 4, 2) := by decide +kernel
theorem dX6_laysRead_67 : decode cX6_laysRead 67 = .ok (.aload_n 0, 1) := by decide +kernel
theorem dX6_laysRead_68 : decode cX6_laysRead 68 = .ok (.getfield 29, 3) := by decide +kernel
theorem dX6_laysRead_71 : decode cX6_laysRead 71 = .ok (.iload 4, 2) := by decide +kernel
theorem dX6_laysRead_73 : decode cX6_laysRead 73 = .ok (.iload_n 1, 1) := by decide +kernel
theorem dX6_laysRead_74 : decode cX6_laysRead 74 = .ok (.ifCond .ne 7, 3) := by decide +kernel
theorem dX6_laysRead_77 : decode cX6_laysRead 77 = .ok (.iconst 0, 1) := by decide +kernel
theorem dX6_laysRead_78 : decode cX6_laysRead 78 = .ok (.goto 34, 3) := by decide +kernel
theorem dX6_laysRead_81 : decode cX6_laysRead 81 = .ok (.iload_n 1, 1) := by decide +kernel
theorem dX6_laysRead_82 : decode cX6_laysRead 82 = .ok (.iconst 1, 1) := by decide +kernel
theorem dX6_laysRead_83 : decode cX6_laysRead 83 = .ok (.if_icmp .ne 12, 3) := by decide +kernel
theorem dX6_laysRead_86 : decode cX6_laysRead 86 = .ok (.aload_n 0, 1) := by decide +kernel
theorem dX6_laysRead_87 : decode cX6_laysRead 87 = .ok (.getfield 32, 3) := by decide +kernel
theorem dX6_laysRead_90 : decode cX6_laysRead 90 = .ok (.iload_n 3, 1) := by decide +kernel
theorem dX6_laysRead_91 : decode cX6_laysRead 91 = .ok (.iaload, 1) := by decide +kernel
theorem dX6_laysRead_92 : decode cX6_laysRead 92 = .ok (.goto 20, 3) := by decide +kernel
theorem dX6_laysRead_95 : decode cX6_laysRead 95 = .ok (.aload_n 0, 1) := by decide +kernel
theorem dX6_laysRead_96 : decode cX6_laysRead 96 = .ok (.getfield 35, 3) := by decide +kernel
theorem dX6_laysRead_99 : decode cX6_laysRead 99 = .ok (.iload_n 3, 1) := by decide +kernel
theorem dX6_laysRead_100 : decode cX6_laysRead 100 = .ok (.iload_n 2, 1) := by decide +kernel
theorem dX6_laysRead_101 : decode cX6_laysRead 101 = .ok (.idiv, 1) := by decide +kernel
theorem dX6_laysRead_102 : decode cX6_laysRead 102 = .ok (.iaload, 1) := by decide +kernel
theorem dX6_laysRead_103 : decode cX6_laysRead 103 = .ok (.aload_n 0, 1) := by decide +kernel
theorem dX6_laysRead_104 : decode cX6_laysRead 104 = .ok (.getfield 32, 3) := by decide +kernel
theorem dX6_laysRead_107 : decode cX6_laysRead 107 = .ok (.iload_n 3, 1) := by decide +kernel
theorem dX6_laysRead_108 : decode cX6_laysRead 108 = .ok (.iload_n 2, 1) := by decide +kernel
theorem dX6_laysRead_109 : decode cX6_laysRead 109 = .ok (.irem, 1) := by decide +kernel
theorem dX6_laysRead_110 : decode cX6_laysRead 110 = .ok (.iaload, 1) := by decide +kernel
theorem dX6_laysRead_111 : decode cX6_laysRead 111 = .ok (.imul, 1) := by decide +kernel
theorem dX6_laysRead_112 : decode cX6_laysRead 112 = .ok (.iastore, 1) := by decide +kernel
theorem dX6_laysRead_113 : decode cX6_laysRead 113 = .ok (.iinc 3 1, 3) := by decide +kernel
theorem dX6_laysRead_116 : decode cX6_laysRead 116 = .ok (.goto (-85), 3) := by decide +kernel
theorem dX6_laysRead_119 : decode cX6_laysRead 119 = .ok (.return_, 1) := by decide +kernel
theorem dX6_keepsValues_0 : decode cX6_keepsValues 0 = .ok (.iconst 0, 1) := by decide +kernel
theorem dX6_keepsValues_1 : decode cX6_keepsValues 1 = .ok (.istore_n 3, 1) := by decide +kernel
theorem dX6_keepsValues_2 : decode cX6_keepsValues 2 = .ok (.iload_n 3, 1) := by decide +kernel
theorem dX6_keepsValues_3 : decode cX6_keepsValues 3 = .ok (.iload_n 1, 1) := by decide +kernel
theorem dX6_keepsValues_4 : decode cX6_keepsValues 4 = .ok (.if_icmp .ge 41, 3) := by decide +kernel
theorem dX6_keepsValues_7 : decode cX6_keepsValues 7 = .ok (.aload_n 0, 1) := by decide +kernel
theorem dX6_keepsValues_8 : decode cX6_keepsValues 8 = .ok (.getfield 35, 3) := by decide +kernel
theorem dX6_keepsValues_11 : decode cX6_keepsValues 11 = .ok (.iload_n 3, 1) := by decide +kernel
theorem dX6_keepsValues_12 : decode cX6_keepsValues 12 = .ok (.aload_n 0, 1) := by decide +kernel
theorem dX6_keepsValues_13 : decode cX6_keepsValues 13 = .ok (.getfield 32, 3) := by decide +kernel
theorem dX6_keepsValues_16 : decode cX6_keepsValues 16 = .ok (.iload_n 3, 1) := by decide +kernel
theorem dX6_keepsValues_17 : decode cX6_keepsValues 17 = .ok (.iaload, 1) := by decide +kernel
theorem dX6_keepsValues_18 : decode cX6_keepsValues 18 = .ok (.iastore, 1) := by decide +kernel
theorem dX6_keepsValues_19 : decode cX6_keepsValues 19 = .ok (.aload_n 0, 1) := by decide +kernel
theorem dX6_keepsValues_20 : decode cX6_keepsValues 20 = .ok (.getfield 32, 3) := by decide +kernel
theorem dX6_keepsValues_23 : decode cX6_keepsValues 23 = .ok (.iload_n 3, 1) := by decide +kernel
theorem dX6_keepsValues_24 : decode cX6_keepsValues 24 = .ok (.iload_n 2, 1) := by decide +kernel
theorem dX6_keepsValues_25 : decode cX6_keepsValues 25 = .ok (.ifCond .eq 7, 3) := by decide +kernel
theorem dX6_keepsValues_28 : decode cX6_keepsValues 28 = .ok (.iconst 1, 1) := by decide +kernel
theorem dX6_keepsValues_29 : decode cX6_keepsValues 29 = .ok (.goto 9, 3) := by decide +kernel
theorem dX6_keepsValues_32 : decode cX6_keepsValues 32 = .ok (.aload_n 0, 1) := by decide +kernel
theorem dX6_keepsValues_33 : decode cX6_keepsValues 33 = .ok (.getfield 32, 3) := by decide +kernel
theorem dX6_keepsValues_36 : decode cX6_keepsValues 36 = .ok (.iload_n 3, 1) := by decide +kernel
theorem dX6_keepsValues_37 : decode cX6_keepsValues 37 = .ok (.iaload, 1) := by decide +kernel
theorem dX6_keepsValues_38 : decode cX6_keepsValues 38 = .ok (.iastore, 1) := by decide +kernel
theorem dX6_keepsValues_39 : decode cX6_keepsValues 39 = .ok (.iinc 3 1, 3) := by decide +kernel
theorem dX6_keepsValues_42 : decode cX6_keepsValues 42 = .ok (.goto (-40), 3) := by decide +kernel
theorem dX6_keepsValues_45 : decode cX6_keepsValues 45 = .ok (.return_, 1) := by decide +kernel
theorem dX6_readsBlock_0 : decode cX6_readsBlock 0 = .ok (.aload_n 0, 1) := by decide +kernel
theorem dX6_readsBlock_1 : decode cX6_readsBlock 1 = .ok (.getfield 211, 3) := by decide +kernel
theorem dX6_readsBlock_4 : decode cX6_readsBlock 4 = .ok (.invokestatic 67, 3) := by decide +kernel
theorem dX6_readsBlock_7 : decode cX6_readsBlock 7 = .ok (.istore_n 1, 1) := by decide +kernel
theorem dX6_readsBlock_8 : decode cX6_readsBlock 8 = .ok (.aload_n 0, 1) := by decide +kernel
theorem dX6_readsBlock_9 : decode cX6_readsBlock 9 = .ok (.invokevirtual 202, 3) := by decide +kernel
theorem dX6_readsBlock_12 : decode cX6_readsBlock 12 = .ok (.istore_n 2, 1) := by decide +kernel
theorem dX6_readsBlock_13 : decode cX6_readsBlock 13 = .ok (.aload_n 0, 1) := by decide +kernel
theorem dX6_readsBlock_14 : decode cX6_readsBlock 14 = .ok (.iload_n 2, 1) := by decide +kernel
theorem dX6_readsBlock_15 : decode cX6_readsBlock 15 = .ok (.bipush 48, 2) := by decide +kernel
theorem dX6_readsBlock_17 : decode cX6_readsBlock 17 = .ok (.if_icmp .eq 21, 3) := by decide +kernel
theorem dX6_readsBlock_20 : decode cX6_readsBlock 20 = .ok (.iload_n 2, 1) := by decide +kernel
theorem dX6_readsBlock_21 : decode cX6_readsBlock 21 = .ok (.bipush 100, 2) := by decide +kernel
theorem dX6_readsBlock_23 : decode cX6_readsBlock 23 = .ok (.if_icmp .eq 15, 3) := by decide +kernel
theorem dX6_readsBlock_26 : decode cX6_readsBlock 26 = .ok (.iload_n 2, 1) := by decide +kernel
theorem dX6_readsBlock_27 : decode cX6_readsBlock 27 = .ok (.bipush 117, 2) := by decide +kernel
theorem dX6_readsBlock_29 : decode cX6_readsBlock 29 = .ok (.if_icmp .eq 9, 3) := by decide +kernel
theorem dX6_readsBlock_32 : decode cX6_readsBlock 32 = .ok (.iload_n 2, 1) := by decide +kernel
theorem dX6_readsBlock_33 : decode cX6_readsBlock 33 = .ok (.bipush 102, 2) := by decide +kernel
theorem dX6_readsBlock_35 : decode cX6_readsBlock 35 = .ok (.if_icmp .ne 7, 3) := by decide +kernel
theorem dX6_readsBlock_38 : decode cX6_readsBlock 38 = .ok (.iconst 1, 1) := by decide +kernel
theorem dX6_readsBlock_39 : decode cX6_readsBlock 39 = .ok (.goto 4, 3) := by decide +kernel
theorem dX6_readsBlock_42 : decode cX6_readsBlock 42 = .ok (.iconst 0, 1) := by decide +kernel
theorem dX6_readsBlock_43 : decode cX6_readsBlock 43 = .ok (.putfield 198, 3) := by decide +kernel
theorem dX6_readsBlock_46 : decode cX6_readsBlock 46 = .ok (.aload_n 0, 1) := by decide +kernel
theorem dX6_readsBlock_47 : decode cX6_readsBlock 47 = .ok (.dup, 1) := by decide +kernel
theorem dX6_readsBlock_48 : decode cX6_readsBlock 48 = .ok (.getfield 195, 3) := by decide +kernel
theorem dX6_readsBlock_51 : decode cX6_readsBlock 51 = .ok (.aload_n 0, 1) := by decide +kernel
theorem dX6_readsBlock_52 : decode cX6_readsBlock 52 = .ok (.getfield 198, 3) := by decide +kernel
theorem dX6_readsBlock_55 : decode cX6_readsBlock 55 = .ok (.ifCond .eq 7, 3) := by decide +kernel
theorem dX6_readsBlock_58 : decode cX6_readsBlock 58 = .ok (.iconst 1, 1) := by decide +kernel
theorem dX6_readsBlock_59 : decode cX6_readsBlock 59 = .ok (.goto 4, 3) := by decide +kernel
theorem dX6_readsBlock_62 : decode cX6_readsBlock 62 = .ok (.iconst 0, 1) := by decide +kernel
theorem dX6_readsBlock_63 : decode cX6_readsBlock 63 = .ok (.iadd, 1) := by decide +kernel
theorem dX6_readsBlock_64 : decode cX6_readsBlock 64 = .ok (.putfield 195, 3) := by decide +kernel
theorem dX6_readsBlock_67 : decode cX6_readsBlock 67 = .ok (.iload_n 2, 1) := by decide +kernel
theorem dX6_readsBlock_68 : decode cX6_readsBlock 68 = .ok (.lookupswitch 139 #[(48, 44), (100, 52), (102, 124), (117, 94)], 44) := by decide +kernel
theorem dX6_readsBlock_112 : decode cX6_readsBlock 112 = .ok (.aload_n 0, 1) := by decide +kernel
theorem dX6_readsBlock_113 : decode cX6_readsBlock 113 = .ok (.iconst 0, 1) := by decide +kernel
theorem dX6_readsBlock_114 : decode cX6_readsBlock 114 = .ok (.invokevirtual 220, 3) := by decide +kernel
theorem dX6_readsBlock_117 : decode cX6_readsBlock 117 = .ok (.goto 90, 3) := by decide +kernel
theorem dX6_readsBlock_120 : decode cX6_readsBlock 120 = .ok (.aload_n 0, 1) := by decide +kernel
theorem dX6_readsBlock_121 : decode cX6_readsBlock 121 = .ok (.invokevirtual 208, 3) := by decide +kernel
theorem dX6_readsBlock_124 : decode cX6_readsBlock 124 = .ok (.istore_n 3, 1) := by decide +kernel
theorem dX6_readsBlock_125 : decode cX6_readsBlock 125 = .ok (.iconst 0, 1) := by decide +kernel
theorem dX6_readsBlock_126 : decode cX6_readsBlock 126 = .ok (.istore 4, 2) := by decide +kernel
theorem dX6_readsBlock_128 : decode cX6_readsBlock 128 = .ok (.iload 4, 2) := by decide +kernel
theorem dX6_readsBlock_130 : decode cX6_readsBlock 130 = .ok (.iload_n 1, 1) := by decide +kernel
theorem dX6_readsBlock_131 : decode cX6_readsBlock 131 = .ok (.if_icmp .ge 17, 3) := by decide +kernel
theorem dX6_readsBlock_134 : decode cX6_readsBlock 134 = .ok (.aload_n 0, 1) := by decide +kernel
theorem dX6_readsBlock_135 : decode cX6_readsBlock 135 = .ok (.getfield 32, 3) := by decide +kernel
theorem dX6_readsBlock_138 : decode cX6_readsBlock 138 = .ok (.iload 4, 2) := by decide +kernel
theorem dX6_readsBlock_140 : decode cX6_readsBlock 140 = .ok (.iload_n 3, 1) := by decide +kernel
theorem dX6_readsBlock_141 : decode cX6_readsBlock 141 = .ok (.iastore, 1) := by decide +kernel
theorem dX6_readsBlock_142 : decode cX6_readsBlock 142 = .ok (.iinc 4 1, 3) := by decide +kernel
theorem dX6_readsBlock_145 : decode cX6_readsBlock 145 = .ok (.goto (-17), 3) := by decide +kernel
theorem dX6_readsBlock_148 : decode cX6_readsBlock 148 = .ok (.aload_n 0, 1) := by decide +kernel
theorem dX6_readsBlock_149 : decode cX6_readsBlock 149 = .ok (.iload_n 1, 1) := by decide +kernel
theorem dX6_readsBlock_150 : decode cX6_readsBlock 150 = .ok (.iconst 1, 1) := by decide +kernel
theorem dX6_readsBlock_151 : decode cX6_readsBlock 151 = .ok (.invokevirtual 223, 3) := by decide +kernel
theorem dX6_readsBlock_154 : decode cX6_readsBlock 154 = .ok (.aload_n 0, 1) := by decide +kernel
theorem dX6_readsBlock_155 : decode cX6_readsBlock 155 = .ok (.iconst 2, 1) := by decide +kernel
theorem dX6_readsBlock_156 : decode cX6_readsBlock 156 = .ok (.invokevirtual 220, 3) := by decide +kernel
theorem dX6_readsBlock_159 : decode cX6_readsBlock 159 = .ok (.goto 48, 3) := by decide +kernel
theorem dX6_readsBlock_162 : decode cX6_readsBlock 162 = .ok (.aload_n 0, 1) := by decide +kernel
theorem dX6_readsBlock_163 : decode cX6_readsBlock 163 = .ok (.iload_n 1, 1) := by decide +kernel
theorem dX6_readsBlock_164 : decode cX6_readsBlock 164 = .ok (.invokevirtual 227, 3) := by decide +kernel
theorem dX6_readsBlock_167 : decode cX6_readsBlock 167 = .ok (.aload_n 0, 1) := by decide +kernel
theorem dX6_readsBlock_168 : decode cX6_readsBlock 168 = .ok (.iload_n 1, 1) := by decide +kernel
theorem dX6_readsBlock_169 : decode cX6_readsBlock 169 = .ok (.iconst 0, 1) := by decide +kernel
theorem dX6_readsBlock_170 : decode cX6_readsBlock 170 = .ok (.invokevirtual 223, 3) := by decide +kernel
theorem dX6_readsBlock_173 : decode cX6_readsBlock 173 = .ok (.aload_n 0, 1) := by decide +kernel
theorem dX6_readsBlock_174 : decode cX6_readsBlock 174 = .ok (.bipush 118, 2) := by decide +kernel
theorem dX6_readsBlock_176 : decode cX6_readsBlock 176 = .ok (.invokevirtual 230, 3) := by decide +kernel
theorem dX6_readsBlock_179 : decode cX6_readsBlock 179 = .ok (.aload_n 0, 1) := by decide +kernel
theorem dX6_readsBlock_180 : decode cX6_readsBlock 180 = .ok (.iload_n 1, 1) := by decide +kernel
theorem dX6_readsBlock_181 : decode cX6_readsBlock 181 = .ok (.invokevirtual 227, 3) := by decide +kernel
theorem dX6_readsBlock_184 : decode cX6_readsBlock 184 = .ok (.aload_n 0, 1) := by decide +kernel
theorem dX6_readsBlock_185 : decode cX6_readsBlock 185 = .ok (.iconst 2, 1) := by decide +kernel
theorem dX6_readsBlock_186 : decode cX6_readsBlock 186 = .ok (.invokevirtual 220, 3) := by decide +kernel
theorem dX6_readsBlock_189 : decode cX6_readsBlock 189 = .ok (.goto 18, 3) := by decide +kernel
theorem dX6_readsBlock_192 : decode cX6_readsBlock 192 = .ok (.aload_n 0, 1) := by decide +kernel
theorem dX6_readsBlock_193 : decode cX6_readsBlock 193 = .ok (.iload_n 1, 1) := by decide +kernel
theorem dX6_readsBlock_194 : decode cX6_readsBlock 194 = .ok (.iload_n 1, 1) := by decide +kernel
theorem dX6_readsBlock_195 : decode cX6_readsBlock 195 = .ok (.imul, 1) := by decide +kernel
theorem dX6_readsBlock_196 : decode cX6_readsBlock 196 = .ok (.invokevirtual 227, 3) := by decide +kernel
theorem dX6_readsBlock_199 : decode cX6_readsBlock 199 = .ok (.aload_n 0, 1) := by decide +kernel
theorem dX6_readsBlock_200 : decode cX6_readsBlock 200 = .ok (.iconst 1, 1) := by decide +kernel
theorem dX6_readsBlock_201 : decode cX6_readsBlock 201 = .ok (.invokevirtual 220, 3) := by decide +kernel
theorem dX6_readsBlock_204 : decode cX6_readsBlock 204 = .ok (.goto 3, 3) := by decide +kernel
theorem dX6_readsBlock_207 : decode cX6_readsBlock 207 = .ok (.return_, 1) := by decide +kernel
theorem dX6_goesDown_0 : decode cX6_goesDown 0 = .ok (.aload_n 0, 1) := by decide +kernel
theorem dX6_goesDown_1 : decode cX6_goesDown 1 = .ok (.getfield 29, 3) := by decide +kernel
theorem dX6_goesDown_4 : decode cX6_goesDown 4 = .ok (.aload_n 0, 1) := by decide +kernel
theorem dX6_goesDown_5 : decode cX6_goesDown 5 = .ok (.getfield 211, 3) := by decide +kernel
theorem dX6_goesDown_8 : decode cX6_goesDown 8 = .ok (.aload_n 0, 1) := by decide +kernel
theorem dX6_goesDown_9 : decode cX6_goesDown 9 = .ok (.getfield 214, 3) := by decide +kernel
theorem dX6_goesDown_12 : decode cX6_goesDown 12 = .ok (.aload_n 0, 1) := by decide +kernel
theorem dX6_goesDown_13 : decode cX6_goesDown 13 = .ok (.getfield 217, 3) := by decide +kernel
theorem dX6_goesDown_16 : decode cX6_goesDown 16 = .ok (.invokestatic 49, 3) := by decide +kernel
theorem dX6_goesDown_19 : decode cX6_goesDown 19 = .ok (.iconst 3, 1) := by decide +kernel
theorem dX6_goesDown_20 : decode cX6_goesDown 20 = .ok (.iastore, 1) := by decide +kernel
theorem dX6_goesDown_21 : decode cX6_goesDown 21 = .ok (.aload_n 0, 1) := by decide +kernel
theorem dX6_goesDown_22 : decode cX6_goesDown 22 = .ok (.dup, 1) := by decide +kernel
theorem dX6_goesDown_23 : decode cX6_goesDown 23 = .ok (.getfield 195, 3) := by decide +kernel
theorem dX6_goesDown_26 : decode cX6_goesDown 26 = .ok (.iconst 1, 1) := by decide +kernel
theorem dX6_goesDown_27 : decode cX6_goesDown 27 = .ok (.iadd, 1) := by decide +kernel
theorem dX6_goesDown_28 : decode cX6_goesDown 28 = .ok (.putfield 195, 3) := by decide +kernel
theorem dX6_goesDown_31 : decode cX6_goesDown 31 = .ok (.aload_n 0, 1) := by decide +kernel
theorem dX6_goesDown_32 : decode cX6_goesDown 32 = .ok (.dup, 1) := by decide +kernel
theorem dX6_goesDown_33 : decode cX6_goesDown 33 = .ok (.getfield 211, 3) := by decide +kernel
theorem dX6_goesDown_36 : decode cX6_goesDown 36 = .ok (.iconst 1, 1) := by decide +kernel
theorem dX6_goesDown_37 : decode cX6_goesDown 37 = .ok (.iadd, 1) := by decide +kernel
theorem dX6_goesDown_38 : decode cX6_goesDown 38 = .ok (.putfield 211, 3) := by decide +kernel
theorem dX6_goesDown_41 : decode cX6_goesDown 41 = .ok (.aload_n 0, 1) := by decide +kernel
theorem dX6_goesDown_42 : decode cX6_goesDown 42 = .ok (.dup, 1) := by decide +kernel
theorem dX6_goesDown_43 : decode cX6_goesDown 43 = .ok (.getfield 214, 3) := by decide +kernel
theorem dX6_goesDown_46 : decode cX6_goesDown 46 = .ok (.iconst 2, 1) := by decide +kernel
theorem dX6_goesDown_47 : decode cX6_goesDown 47 = .ok (.imul, 1) := by decide +kernel
theorem dX6_goesDown_48 : decode cX6_goesDown 48 = .ok (.putfield 214, 3) := by decide +kernel
theorem dX6_goesDown_51 : decode cX6_goesDown 51 = .ok (.aload_n 0, 1) := by decide +kernel
theorem dX6_goesDown_52 : decode cX6_goesDown 52 = .ok (.dup, 1) := by decide +kernel
theorem dX6_goesDown_53 : decode cX6_goesDown 53 = .ok (.getfield 217, 3) := by decide +kernel
theorem dX6_goesDown_56 : decode cX6_goesDown 56 = .ok (.iconst 2, 1) := by decide +kernel
theorem dX6_goesDown_57 : decode cX6_goesDown 57 = .ok (.imul, 1) := by decide +kernel
theorem dX6_goesDown_58 : decode cX6_goesDown 58 = .ok (.putfield 217, 3) := by decide +kernel
theorem dX6_goesDown_61 : decode cX6_goesDown 61 = .ok (.return_, 1) := by decide +kernel
theorem dX6_goesOn_0 : decode cX6_goesOn 0 = .ok (.aload_n 0, 1) := by decide +kernel
theorem dX6_goesOn_1 : decode cX6_goesOn 1 = .ok (.getfield 211, 3) := by decide +kernel
theorem dX6_goesOn_4 : decode cX6_goesOn 4 = .ok (.ifCond .le 71, 3) := by decide +kernel
theorem dX6_goesOn_7 : decode cX6_goesOn 7 = .ok (.aload_n 0, 1) := by decide +kernel
theorem dX6_goesOn_8 : decode cX6_goesOn 8 = .ok (.getfield 214, 3) := by decide +kernel
theorem dX6_goesOn_11 : decode cX6_goesOn 11 = .ok (.iconst 2, 1) := by decide +kernel
theorem dX6_goesOn_12 : decode cX6_goesOn 12 = .ok (.irem, 1) := by decide +kernel
theorem dX6_goesOn_13 : decode cX6_goesOn 13 = .ok (.iconst 1, 1) := by decide +kernel
theorem dX6_goesOn_14 : decode cX6_goesOn 14 = .ok (.if_icmp .ne 61, 3) := by decide +kernel
theorem dX6_goesOn_17 : decode cX6_goesOn 17 = .ok (.aload_n 0, 1) := by decide +kernel
theorem dX6_goesOn_18 : decode cX6_goesOn 18 = .ok (.getfield 217, 3) := by decide +kernel
theorem dX6_goesOn_21 : decode cX6_goesOn 21 = .ok (.iconst 2, 1) := by decide +kernel
theorem dX6_goesOn_22 : decode cX6_goesOn 22 = .ok (.irem, 1) := by decide +kernel
theorem dX6_goesOn_23 : decode cX6_goesOn 23 = .ok (.iconst 1, 1) := by decide +kernel
theorem dX6_goesOn_24 : decode cX6_goesOn 24 = .ok (.if_icmp .ne 51, 3) := by decide +kernel
theorem dX6_goesOn_27 : decode cX6_goesOn 27 = .ok (.aload_n 0, 1) := by decide +kernel
theorem dX6_goesOn_28 : decode cX6_goesOn 28 = .ok (.bipush 41, 2) := by decide +kernel
theorem dX6_goesOn_30 : decode cX6_goesOn 30 = .ok (.invokevirtual 230, 3) := by decide +kernel
theorem dX6_goesOn_33 : decode cX6_goesOn 33 = .ok (.aload_n 0, 1) := by decide +kernel
theorem dX6_goesOn_34 : decode cX6_goesOn 34 = .ok (.getfield 198, 3) := by decide +kernel
theorem dX6_goesOn_37 : decode cX6_goesOn 37 = .ok (.ifCond .ne 5, 3) := by decide +kernel
theorem dX6_goesOn_40 : decode cX6_goesOn 40 = .ok (.iconst 0, 1) := by decide +kernel
theorem dX6_goesOn_41 : decode cX6_goesOn 41 = .ok (.ireturn, 1) := by decide +kernel
theorem dX6_goesOn_42 : decode cX6_goesOn 42 = .ok (.aload_n 0, 1) := by decide +kernel
theorem dX6_goesOn_43 : decode cX6_goesOn 43 = .ok (.dup, 1) := by decide +kernel
theorem dX6_goesOn_44 : decode cX6_goesOn 44 = .ok (.getfield 211, 3) := by decide +kernel
theorem dX6_goesOn_47 : decode cX6_goesOn 47 = .ok (.iconst 1, 1) := by decide +kernel
theorem dX6_goesOn_48 : decode cX6_goesOn 48 = .ok (.isub, 1) := by decide +kernel
theorem dX6_goesOn_49 : decode cX6_goesOn 49 = .ok (.putfield 211, 3) := by decide +kernel
theorem dX6_goesOn_52 : decode cX6_goesOn 52 = .ok (.aload_n 0, 1) := by decide +kernel
theorem dX6_goesOn_53 : decode cX6_goesOn 53 = .ok (.dup, 1) := by decide +kernel
theorem dX6_goesOn_54 : decode cX6_goesOn 54 = .ok (.getfield 214, 3) := by decide +kernel
theorem dX6_goesOn_57 : decode cX6_goesOn 57 = .ok (.iconst 2, 1) := by decide +kernel
theorem dX6_goesOn_58 : decode cX6_goesOn 58 = .ok (.idiv, 1) := by decide +kernel
theorem dX6_goesOn_59 : decode cX6_goesOn 59 = .ok (.putfield 214, 3) := by decide +kernel
theorem dX6_goesOn_62 : decode cX6_goesOn 62 = .ok (.aload_n 0, 1) := by decide +kernel
theorem dX6_goesOn_63 : decode cX6_goesOn 63 = .ok (.dup, 1) := by decide +kernel
theorem dX6_goesOn_64 : decode cX6_goesOn 64 = .ok (.getfield 217, 3) := by decide +kernel
theorem dX6_goesOn_67 : decode cX6_goesOn 67 = .ok (.iconst 2, 1) := by decide +kernel
theorem dX6_goesOn_68 : decode cX6_goesOn 68 = .ok (.idiv, 1) := by decide +kernel
theorem dX6_goesOn_69 : decode cX6_goesOn 69 = .ok (.putfield 217, 3) := by decide +kernel
theorem dX6_goesOn_72 : decode cX6_goesOn 72 = .ok (.goto (-72), 3) := by decide +kernel
theorem dX6_goesOn_75 : decode cX6_goesOn 75 = .ok (.aload_n 0, 1) := by decide +kernel
theorem dX6_goesOn_76 : decode cX6_goesOn 76 = .ok (.getfield 211, 3) := by decide +kernel
theorem dX6_goesOn_79 : decode cX6_goesOn 79 = .ok (.ifCond .ne 5, 3) := by decide +kernel
theorem dX6_goesOn_82 : decode cX6_goesOn 82 = .ok (.iconst 1, 1) := by decide +kernel
theorem dX6_goesOn_83 : decode cX6_goesOn 83 = .ok (.ireturn, 1) := by decide +kernel
theorem dX6_goesOn_84 : decode cX6_goesOn 84 = .ok (.aload_n 0, 1) := by decide +kernel
theorem dX6_goesOn_85 : decode cX6_goesOn 85 = .ok (.dup, 1) := by decide +kernel
theorem dX6_goesOn_86 : decode cX6_goesOn 86 = .ok (.getfield 214, 3) := by decide +kernel
theorem dX6_goesOn_89 : decode cX6_goesOn 89 = .ok (.aload_n 0, 1) := by decide +kernel
theorem dX6_goesOn_90 : decode cX6_goesOn 90 = .ok (.getfield 217, 3) := by decide +kernel
theorem dX6_goesOn_93 : decode cX6_goesOn 93 = .ok (.iconst 2, 1) := by decide +kernel
theorem dX6_goesOn_94 : decode cX6_goesOn 94 = .ok (.irem, 1) := by decide +kernel
theorem dX6_goesOn_95 : decode cX6_goesOn 95 = .ok (.iadd, 1) := by decide +kernel
theorem dX6_goesOn_96 : decode cX6_goesOn 96 = .ok (.putfield 214, 3) := by decide +kernel
theorem dX6_goesOn_99 : decode cX6_goesOn 99 = .ok (.aload_n 0, 1) := by decide +kernel
theorem dX6_goesOn_100 : decode cX6_goesOn 100 = .ok (.dup, 1) := by decide +kernel
theorem dX6_goesOn_101 : decode cX6_goesOn 101 = .ok (.getfield 217, 3) := by decide +kernel
theorem dX6_goesOn_104 : decode cX6_goesOn 104 = .ok (.aload_n 0, 1) := by decide +kernel
theorem dX6_goesOn_105 : decode cX6_goesOn 105 = .ok (.getfield 217, 3) := by decide +kernel
theorem dX6_goesOn_108 : decode cX6_goesOn 108 = .ok (.iconst 2, 1) := by decide +kernel
theorem dX6_goesOn_109 : decode cX6_goesOn 109 = .ok (.irem, 1) := by decide +kernel
theorem dX6_goesOn_110 : decode cX6_goesOn 110 = .ok (.ifCond .ne 7, 3) := by decide +kernel
theorem dX6_goesOn_113 : decode cX6_goesOn 113 = .ok (.iconst 1, 1) := by decide +kernel
theorem dX6_goesOn_114 : decode cX6_goesOn 114 = .ok (.goto 4, 3) := by decide +kernel
theorem dX6_goesOn_117 : decode cX6_goesOn 117 = .ok (.iconst (-1), 1) := by decide +kernel
theorem dX6_goesOn_118 : decode cX6_goesOn 118 = .ok (.iadd, 1) := by decide +kernel
theorem dX6_goesOn_119 : decode cX6_goesOn 119 = .ok (.putfield 217, 3) := by decide +kernel
theorem dX6_goesOn_122 : decode cX6_goesOn 122 = .ok (.iconst 0, 1) := by decide +kernel
theorem dX6_goesOn_123 : decode cX6_goesOn 123 = .ok (.ireturn, 1) := by decide +kernel
theorem dX6_reads_0 : decode cX6_reads 0 = .ok (.aload_n 0, 1) := by decide +kernel
theorem dX6_reads_1 : decode cX6_reads 1 = .ok (.iconst 0, 1) := by decide +kernel
theorem dX6_reads_2 : decode cX6_reads 2 = .ok (.putfield 195, 3) := by decide +kernel
theorem dX6_reads_5 : decode cX6_reads 5 = .ok (.aload_n 0, 1) := by decide +kernel
theorem dX6_reads_6 : decode cX6_reads 6 = .ok (.iconst 1, 1) := by decide +kernel
theorem dX6_reads_7 : decode cX6_reads 7 = .ok (.putfield 198, 3) := by decide +kernel
theorem dX6_reads_10 : decode cX6_reads 10 = .ok (.aload_n 0, 1) := by decide +kernel
theorem dX6_reads_11 : decode cX6_reads 11 = .ok (.iconst 0, 1) := by decide +kernel
theorem dX6_reads_12 : decode cX6_reads 12 = .ok (.putfield 211, 3) := by decide +kernel
theorem dX6_reads_15 : decode cX6_reads 15 = .ok (.aload_n 0, 1) := by decide +kernel
theorem dX6_reads_16 : decode cX6_reads 16 = .ok (.iconst 0, 1) := by decide +kernel
theorem dX6_reads_17 : decode cX6_reads 17 = .ok (.putfield 214, 3) := by decide +kernel
theorem dX6_reads_20 : decode cX6_reads 20 = .ok (.aload_n 0, 1) := by decide +kernel
theorem dX6_reads_21 : decode cX6_reads 21 = .ok (.iconst 0, 1) := by decide +kernel
theorem dX6_reads_22 : decode cX6_reads 22 = .ok (.putfield 217, 3) := by decide +kernel
theorem dX6_reads_25 : decode cX6_reads 25 = .ok (.iconst 0, 1) := by decide +kernel
theorem dX6_reads_26 : decode cX6_reads 26 = .ok (.istore_n 1, 1) := by decide +kernel
theorem dX6_reads_27 : decode cX6_reads 27 = .ok (.aload_n 0, 1) := by decide +kernel
theorem dX6_reads_28 : decode cX6_reads 28 = .ok (.getfield 198, 3) := by decide +kernel
theorem dX6_reads_31 : decode cX6_reads 31 = .ok (.ifCond .eq 58, 3) := by decide +kernel
theorem dX6_reads_34 : decode cX6_reads 34 = .ok (.iload_n 1, 1) := by decide +kernel
theorem dX6_reads_35 : decode cX6_reads 35 = .ok (.ifCond .ne 54, 3) := by decide +kernel
theorem dX6_reads_38 : decode cX6_reads 38 = .ok (.aload_n 0, 1) := by decide +kernel
theorem dX6_reads_39 : decode cX6_reads 39 = .ok (.invokevirtual 202, 3) := by decide +kernel
theorem dX6_reads_42 : decode cX6_reads 42 = .ok (.bipush 40, 2) := by decide +kernel
theorem dX6_reads_44 : decode cX6_reads 44 = .ok (.if_icmp .ne 18, 3) := by decide +kernel
theorem dX6_reads_47 : decode cX6_reads 47 = .ok (.aload_n 0, 1) := by decide +kernel
theorem dX6_reads_48 : decode cX6_reads 48 = .ok (.getfield 211, 3) := by decide +kernel
theorem dX6_reads_51 : decode cX6_reads 51 = .ok (.iconst 3, 1) := by decide +kernel
theorem dX6_reads_52 : decode cX6_reads 52 = .ok (.if_icmp .ge 10, 3) := by decide +kernel
theorem dX6_reads_55 : decode cX6_reads 55 = .ok (.aload_n 0, 1) := by decide +kernel
theorem dX6_reads_56 : decode cX6_reads 56 = .ok (.invokevirtual 233, 3) := by decide +kernel
theorem dX6_reads_59 : decode cX6_reads 59 = .ok (.goto (-32), 3) := by decide +kernel
theorem dX6_reads_62 : decode cX6_reads 62 = .ok (.aload_n 0, 1) := by decide +kernel
theorem dX6_reads_63 : decode cX6_reads 63 = .ok (.invokevirtual 236, 3) := by decide +kernel
theorem dX6_reads_66 : decode cX6_reads 66 = .ok (.aload_n 0, 1) := by decide +kernel
theorem dX6_reads_67 : decode cX6_reads 67 = .ok (.getfield 198, 3) := by decide +kernel
theorem dX6_reads_70 : decode cX6_reads 70 = .ok (.ifCond .eq 14, 3) := by decide +kernel
theorem dX6_reads_73 : decode cX6_reads 73 = .ok (.aload_n 0, 1) := by decide +kernel
theorem dX6_reads_74 : decode cX6_reads 74 = .ok (.invokevirtual 239, 3) := by decide +kernel
theorem dX6_reads_77 : decode cX6_reads 77 = .ok (.ifCond .eq 7, 3) := by decide +kernel
theorem dX6_reads_80 : decode cX6_reads 80 = .ok (.iconst 1, 1) := by decide +kernel
theorem dX6_reads_81 : decode cX6_reads 81 = .ok (.goto 4, 3) := by decide +kernel
theorem dX6_reads_84 : decode cX6_reads 84 = .ok (.iconst 0, 1) := by decide +kernel
theorem dX6_reads_85 : decode cX6_reads 85 = .ok (.istore_n 1, 1) := by decide +kernel
theorem dX6_reads_86 : decode cX6_reads 86 = .ok (.goto (-59), 3) := by decide +kernel
theorem dX6_reads_89 : decode cX6_reads 89 = .ok (.aload_n 0, 1) := by decide +kernel
theorem dX6_reads_90 : decode cX6_reads 90 = .ok (.getfield 198, 3) := by decide +kernel
theorem dX6_reads_93 : decode cX6_reads 93 = .ok (.ifCond .eq 19, 3) := by decide +kernel
theorem dX6_reads_96 : decode cX6_reads 96 = .ok (.aload_n 0, 1) := by decide +kernel
theorem dX6_reads_97 : decode cX6_reads 97 = .ok (.getfield 195, 3) := by decide +kernel
theorem dX6_reads_100 : decode cX6_reads 100 = .ok (.aload_n 0, 1) := by decide +kernel
theorem dX6_reads_101 : decode cX6_reads 101 = .ok (.getfield 115, 3) := by decide +kernel
theorem dX6_reads_104 : decode cX6_reads 104 = .ok (.if_icmp .ne 8, 3) := by decide +kernel
theorem dX6_reads_107 : decode cX6_reads 107 = .ok (.bipush (-6), 2) := by decide +kernel
theorem dX6_reads_109 : decode cX6_reads 109 = .ok (.goto 7, 3) := by decide +kernel
theorem dX6_reads_112 : decode cX6_reads 112 = .ok (.aload_n 0, 1) := by decide +kernel
theorem dX6_reads_113 : decode cX6_reads 113 = .ok (.getfield 195, 3) := by decide +kernel
theorem dX6_reads_116 : decode cX6_reads 116 = .ok (.ireturn, 1) := by decide +kernel
theorem dX6_fault_0 : decode cX6_fault 0 = .ok (.aload_n 0, 1) := by decide +kernel
theorem dX6_fault_1 : decode cX6_fault 1 = .ok (.iconst 0, 1) := by decide +kernel
theorem dX6_fault_2 : decode cX6_fault 2 = .ok (.putfield 41, 3) := by decide +kernel
theorem dX6_fault_5 : decode cX6_fault 5 = .ok (.aload_n 0, 1) := by decide +kernel
theorem dX6_fault_6 : decode cX6_fault 6 = .ok (.invokevirtual 108, 3) := by decide +kernel
theorem dX6_fault_9 : decode cX6_fault 9 = .ok (.ireturn, 1) := by decide +kernel
theorem dX6_undo_0 : decode cX6_undo 0 = .ok (.aload_n 0, 1) := by decide +kernel
theorem dX6_undo_1 : decode cX6_undo 1 = .ok (.iconst 0, 1) := by decide +kernel
theorem dX6_undo_2 : decode cX6_undo 2 = .ok (.putfield 41, 3) := by decide +kernel
theorem dX6_undo_5 : decode cX6_undo 5 = .ok (.aload_n 0, 1) := by decide +kernel
theorem dX6_undo_6 : decode cX6_undo 6 = .ok (.getfield 53, 3) := by decide +kernel
theorem dX6_undo_9 : decode cX6_undo 9 = .ok (.ifCond .ne 6, 3) := by decide +kernel
theorem dX6_undo_12 : decode cX6_undo 12 = .ok (.bipush (-5), 2) := by decide +kernel
theorem dX6_undo_14 : decode cX6_undo 14 = .ok (.ireturn, 1) := by decide +kernel
theorem dX6_undo_15 : decode cX6_undo 15 = .ok (.aload_n 0, 1) := by decide +kernel
theorem dX6_undo_16 : decode cX6_undo 16 = .ok (.dup, 1) := by decide +kernel
theorem dX6_undo_17 : decode cX6_undo 17 = .ok (.getfield 53, 3) := by decide +kernel
theorem dX6_undo_20 : decode cX6_undo 20 = .ok (.iconst 1, 1) := by decide +kernel
theorem dX6_undo_21 : decode cX6_undo 21 = .ok (.isub, 1) := by decide +kernel
theorem dX6_undo_22 : decode cX6_undo 22 = .ok (.putfield 53, 3) := by decide +kernel
theorem dX6_undo_25 : decode cX6_undo 25 = .ok (.iconst 0, 1) := by decide +kernel
theorem dX6_undo_26 : decode cX6_undo 26 = .ok (.istore_n 1, 1) := by decide +kernel
theorem dX6_undo_27 : decode cX6_undo 27 = .ok (.iload_n 1, 1) := by decide +kernel
theorem dX6_undo_28 : decode cX6_undo 28 = .ok (.sipush 1365, 3) := by decide +kernel
theorem dX6_undo_31 : decode cX6_undo 31 = .ok (.if_icmp .ge 30, 3) := by decide +kernel
theorem dX6_undo_34 : decode cX6_undo 34 = .ok (.aload_n 0, 1) := by decide +kernel
theorem dX6_undo_35 : decode cX6_undo 35 = .ok (.getfield 7, 3) := by decide +kernel
theorem dX6_undo_38 : decode cX6_undo 38 = .ok (.iload_n 1, 1) := by decide +kernel
theorem dX6_undo_39 : decode cX6_undo 39 = .ok (.aload_n 0, 1) := by decide +kernel
theorem dX6_undo_40 : decode cX6_undo 40 = .ok (.getfield 16, 3) := by decide +kernel
theorem dX6_undo_43 : decode cX6_undo 43 = .ok (.sipush 1365, 3) := by decide +kernel
theorem dX6_undo_46 : decode cX6_undo 46 = .ok (.aload_n 0, 1) := by decide +kernel
theorem dX6_undo_47 : decode cX6_undo 47 = .ok (.getfield 53, 3) := by decide +kernel
theorem dX6_undo_50 : decode cX6_undo 50 = .ok (.imul, 1) := by decide +kernel
theorem dX6_undo_51 : decode cX6_undo 51 = .ok (.iload_n 1, 1) := by decide +kernel
theorem dX6_undo_52 : decode cX6_undo 52 = .ok (.iadd, 1) := by decide +kernel
theorem dX6_undo_53 : decode cX6_undo 53 = .ok (.iaload, 1) := by decide +kernel
theorem dX6_undo_54 : decode cX6_undo 54 = .ok (.iastore, 1) := by decide +kernel
theorem dX6_undo_55 : decode cX6_undo 55 = .ok (.iinc 1 1, 3) := by decide +kernel
theorem dX6_undo_58 : decode cX6_undo 58 = .ok (.goto (-31), 3) := by decide +kernel
theorem dX6_undo_61 : decode cX6_undo 61 = .ok (.aload_n 0, 1) := by decide +kernel
theorem dX6_undo_62 : decode cX6_undo 62 = .ok (.getfield 53, 3) := by decide +kernel
theorem dX6_undo_65 : decode cX6_undo 65 = .ok (.ireturn, 1) := by decide +kernel
theorem dX6_save_0 : decode cX6_save 0 = .ok (.aload_n 0, 1) := by decide +kernel
theorem dX6_save_1 : decode cX6_save 1 = .ok (.iconst 0, 1) := by decide +kernel
theorem dX6_save_2 : decode cX6_save 2 = .ok (.putfield 41, 3) := by decide +kernel
theorem dX6_save_5 : decode cX6_save 5 = .ok (.iload_n 1, 1) := by decide +kernel
theorem dX6_save_6 : decode cX6_save 6 = .ok (.iconst 0, 1) := by decide +kernel
theorem dX6_save_7 : decode cX6_save 7 = .ok (.iconst 1, 1) := by decide +kernel
theorem dX6_save_8 : decode cX6_save 8 = .ok (.invokestatic 45, 3) := by decide +kernel
theorem dX6_save_11 : decode cX6_save 11 = .ok (.ifCond .ne 6, 3) := by decide +kernel
theorem dX6_save_14 : decode cX6_save 14 = .ok (.bipush (-2), 2) := by decide +kernel
theorem dX6_save_16 : decode cX6_save 16 = .ok (.ireturn, 1) := by decide +kernel
theorem dX6_save_17 : decode cX6_save 17 = .ok (.iconst 0, 1) := by decide +kernel
theorem dX6_save_18 : decode cX6_save 18 = .ok (.istore_n 2, 1) := by decide +kernel
theorem dX6_save_19 : decode cX6_save 19 = .ok (.iload_n 2, 1) := by decide +kernel
theorem dX6_save_20 : decode cX6_save 20 = .ok (.sipush 1365, 3) := by decide +kernel
theorem dX6_save_23 : decode cX6_save 23 = .ok (.if_icmp .ge 27, 3) := by decide +kernel
theorem dX6_save_26 : decode cX6_save 26 = .ok (.aload_n 0, 1) := by decide +kernel
theorem dX6_save_27 : decode cX6_save 27 = .ok (.getfield 19, 3) := by decide +kernel
theorem dX6_save_30 : decode cX6_save 30 = .ok (.sipush 1365, 3) := by decide +kernel
theorem dX6_save_33 : decode cX6_save 33 = .ok (.iload_n 1, 1) := by decide +kernel
theorem dX6_save_34 : decode cX6_save 34 = .ok (.imul, 1) := by decide +kernel
theorem dX6_save_35 : decode cX6_save 35 = .ok (.iload_n 2, 1) := by decide +kernel
theorem dX6_save_36 : decode cX6_save 36 = .ok (.iadd, 1) := by decide +kernel
theorem dX6_save_37 : decode cX6_save 37 = .ok (.aload_n 0, 1) := by decide +kernel
theorem dX6_save_38 : decode cX6_save 38 = .ok (.getfield 7, 3) := by decide +kernel
theorem dX6_save_41 : decode cX6_save 41 = .ok (.iload_n 2, 1) := by decide +kernel
theorem dX6_save_42 : decode cX6_save 42 = .ok (.iaload, 1) := by decide +kernel
theorem dX6_save_43 : decode cX6_save 43 = .ok (.iastore, 1) := by decide +kernel
theorem dX6_save_44 : decode cX6_save 44 = .ok (.iinc 2 1, 3) := by decide +kernel
theorem dX6_save_47 : decode cX6_save 47 = .ok (.goto (-28), 3) := by decide +kernel
theorem dX6_save_50 : decode cX6_save 50 = .ok (.aload_n 0, 1) := by decide +kernel
theorem dX6_save_51 : decode cX6_save 51 = .ok (.getfield 22, 3) := by decide +kernel
theorem dX6_save_54 : decode cX6_save 54 = .ok (.iload_n 1, 1) := by decide +kernel
theorem dX6_save_55 : decode cX6_save 55 = .ok (.iconst 1, 1) := by decide +kernel
theorem dX6_save_56 : decode cX6_save 56 = .ok (.bastore, 1) := by decide +kernel
theorem dX6_save_57 : decode cX6_save 57 = .ok (.aload_n 0, 1) := by decide +kernel
theorem dX6_save_58 : decode cX6_save 58 = .ok (.invokevirtual 178, 3) := by decide +kernel
theorem dX6_save_61 : decode cX6_save 61 = .ok (.ireturn, 1) := by decide +kernel
theorem dX6_restore_0 : decode cX6_restore 0 = .ok (.aload_n 0, 1) := by decide +kernel
theorem dX6_restore_1 : decode cX6_restore 1 = .ok (.iconst 0, 1) := by decide +kernel
theorem dX6_restore_2 : decode cX6_restore 2 = .ok (.putfield 41, 3) := by decide +kernel
theorem dX6_restore_5 : decode cX6_restore 5 = .ok (.iload_n 1, 1) := by decide +kernel
theorem dX6_restore_6 : decode cX6_restore 6 = .ok (.iconst 0, 1) := by decide +kernel
theorem dX6_restore_7 : decode cX6_restore 7 = .ok (.iconst 1, 1) := by decide +kernel
theorem dX6_restore_8 : decode cX6_restore 8 = .ok (.invokestatic 45, 3) := by decide +kernel
theorem dX6_restore_11 : decode cX6_restore 11 = .ok (.ifCond .ne 6, 3) := by decide +kernel
theorem dX6_restore_14 : decode cX6_restore 14 = .ok (.bipush (-2), 2) := by decide +kernel
theorem dX6_restore_16 : decode cX6_restore 16 = .ok (.ireturn, 1) := by decide +kernel
theorem dX6_restore_17 : decode cX6_restore 17 = .ok (.aload_n 0, 1) := by decide +kernel
theorem dX6_restore_18 : decode cX6_restore 18 = .ok (.getfield 22, 3) := by decide +kernel
theorem dX6_restore_21 : decode cX6_restore 21 = .ok (.iload_n 1, 1) := by decide +kernel
theorem dX6_restore_22 : decode cX6_restore 22 = .ok (.baload, 1) := by decide +kernel
theorem dX6_restore_23 : decode cX6_restore 23 = .ok (.ifCond .ne 6, 3) := by decide +kernel
theorem dX6_restore_26 : decode cX6_restore 26 = .ok (.bipush (-5), 2) := by decide +kernel
theorem dX6_restore_28 : decode cX6_restore 28 = .ok (.ireturn, 1) := by decide +kernel
theorem dX6_restore_29 : decode cX6_restore 29 = .ok (.aload_n 0, 1) := by decide +kernel
theorem dX6_restore_30 : decode cX6_restore 30 = .ok (.invokevirtual 56, 3) := by decide +kernel
theorem dX6_restore_33 : decode cX6_restore 33 = .ok (.iconst 0, 1) := by decide +kernel
theorem dX6_restore_34 : decode cX6_restore 34 = .ok (.istore_n 2, 1) := by decide +kernel
theorem dX6_restore_35 : decode cX6_restore 35 = .ok (.iload_n 2, 1) := by decide +kernel
theorem dX6_restore_36 : decode cX6_restore 36 = .ok (.sipush 1365, 3) := by decide +kernel
theorem dX6_restore_39 : decode cX6_restore 39 = .ok (.if_icmp .ge 27, 3) := by decide +kernel
theorem dX6_restore_42 : decode cX6_restore 42 = .ok (.aload_n 0, 1) := by decide +kernel
theorem dX6_restore_43 : decode cX6_restore 43 = .ok (.getfield 7, 3) := by decide +kernel
theorem dX6_restore_46 : decode cX6_restore 46 = .ok (.iload_n 2, 1) := by decide +kernel
theorem dX6_restore_47 : decode cX6_restore 47 = .ok (.aload_n 0, 1) := by decide +kernel
theorem dX6_restore_48 : decode cX6_restore 48 = .ok (.getfield 19, 3) := by decide +kernel
theorem dX6_restore_51 : decode cX6_restore 51 = .ok (.sipush 1365, 3) := by decide +kernel
theorem dX6_restore_54 : decode cX6_restore 54 = .ok (.iload_n 1, 1) := by decide +kernel
theorem dX6_restore_55 : decode cX6_restore 55 = .ok (.imul, 1) := by decide +kernel
theorem dX6_restore_56 : decode cX6_restore 56 = .ok (.iload_n 2, 1) := by decide +kernel
theorem dX6_restore_57 : decode cX6_restore 57 = .ok (.iadd, 1) := by decide +kernel
theorem dX6_restore_58 : decode cX6_restore 58 = .ok (.iaload, 1) := by decide +kernel
theorem dX6_restore_59 : decode cX6_restore 59 = .ok (.iastore, 1) := by decide +kernel
theorem dX6_restore_60 : decode cX6_restore 60 = .ok (.iinc 2 1, 3) := by decide +kernel
theorem dX6_restore_63 : decode cX6_restore 63 = .ok (.goto (-28), 3) := by decide +kernel
theorem dX6_restore_66 : decode cX6_restore 66 = .ok (.aload_n 0, 1) := by decide +kernel
theorem dX6_restore_67 : decode cX6_restore 67 = .ok (.invokevirtual 178, 3) := by decide +kernel
theorem dX6_restore_70 : decode cX6_restore 70 = .ok (.ireturn, 1) := by decide +kernel
theorem dJxe99ae_isNaN_b9ae7_0 : decode cJxe99ae_isNaN_b9ae7 0 = .ok (.dload_n 0, 1) := by decide +kernel
theorem dJxe99ae_isNaN_b9ae7_1 : decode cJxe99ae_isNaN_b9ae7 1 = .ok (.dload_n 0, 1) := by decide +kernel
theorem dJxe99ae_isNaN_b9ae7_2 : decode cJxe99ae_isNaN_b9ae7 2 = .ok (.dcmp .l, 1) := by decide +kernel
theorem dJxe99ae_isNaN_b9ae7_3 : decode cJxe99ae_isNaN_b9ae7 3 = .ok (.ifCond .eq 7, 3) := by decide +kernel
theorem dJxe99ae_isNaN_b9ae7_6 : decode cJxe99ae_isNaN_b9ae7 6 = .ok (.iconst 1, 1) := by decide +kernel
theorem dJxe99ae_isNaN_b9ae7_7 : decode cJxe99ae_isNaN_b9ae7 7 = .ok (.goto 4, 3) := by decide +kernel
theorem dJxe99ae_isNaN_b9ae7_10 : decode cJxe99ae_isNaN_b9ae7 10 = .ok (.iconst 0, 1) := by decide +kernel
theorem dJxe99ae_isNaN_b9ae7_11 : decode cJxe99ae_isNaN_b9ae7 11 = .ok (.ireturn, 1) := by decide +kernel
theorem dJxe99ae_doubleToLongBits_ccdee_0 : decode cJxe99ae_doubleToLongBits_ccdee 0 = .ok (.dload_n 0, 1) := by decide +kernel
theorem dJxe99ae_doubleToLongBits_ccdee_1 : decode cJxe99ae_doubleToLongBits_ccdee 1 = .ok (.invokestatic 122, 3) := by decide +kernel
theorem dJxe99ae_doubleToLongBits_ccdee_4 : decode cJxe99ae_doubleToLongBits_ccdee 4 = .ok (.ifCond .ne 8, 3) := by decide +kernel
theorem dJxe99ae_doubleToLongBits_ccdee_7 : decode cJxe99ae_doubleToLongBits_ccdee 7 = .ok (.dload_n 0, 1) := by decide +kernel
theorem dJxe99ae_doubleToLongBits_ccdee_8 : decode cJxe99ae_doubleToLongBits_ccdee 8 = .ok (.invokestatic 134, 3) := by decide +kernel
theorem dJxe99ae_doubleToLongBits_ccdee_11 : decode cJxe99ae_doubleToLongBits_ccdee 11 = .ok (.lreturn, 1) := by decide +kernel
theorem dJxe99ae_doubleToLongBits_ccdee_12 : decode cJxe99ae_doubleToLongBits_ccdee 12 = .ok (.ldc2_w 137, 3) := by decide +kernel
theorem dJxe99ae_doubleToLongBits_ccdee_15 : decode cJxe99ae_doubleToLongBits_ccdee 15 = .ok (.lreturn, 1) := by decide +kernel
theorem dJxf58ca_isNaN_12338_0 : decode cJxf58ca_isNaN_12338 0 = .ok (.fload_n 0, 1) := by decide +kernel
theorem dJxf58ca_isNaN_12338_1 : decode cJxf58ca_isNaN_12338 1 = .ok (.fload_n 0, 1) := by decide +kernel
theorem dJxf58ca_isNaN_12338_2 : decode cJxf58ca_isNaN_12338 2 = .ok (.fcmp .l, 1) := by decide +kernel
theorem dJxf58ca_isNaN_12338_3 : decode cJxf58ca_isNaN_12338 3 = .ok (.ifCond .eq 7, 3) := by decide +kernel
theorem dJxf58ca_isNaN_12338_6 : decode cJxf58ca_isNaN_12338 6 = .ok (.iconst 1, 1) := by decide +kernel
theorem dJxf58ca_isNaN_12338_7 : decode cJxf58ca_isNaN_12338 7 = .ok (.goto 4, 3) := by decide +kernel
theorem dJxf58ca_isNaN_12338_10 : decode cJxf58ca_isNaN_12338 10 = .ok (.iconst 0, 1) := by decide +kernel
theorem dJxf58ca_isNaN_12338_11 : decode cJxf58ca_isNaN_12338 11 = .ok (.ireturn, 1) := by decide +kernel
theorem dJxf58ca_floatToIntBits_5c35a_0 : decode cJxf58ca_floatToIntBits_5c35a 0 = .ok (.fload_n 0, 1) := by decide +kernel
theorem dJxf58ca_floatToIntBits_5c35a_1 : decode cJxf58ca_floatToIntBits_5c35a 1 = .ok (.invokestatic 59, 3) := by decide +kernel
theorem dJxf58ca_floatToIntBits_5c35a_4 : decode cJxf58ca_floatToIntBits_5c35a 4 = .ok (.ifCond .ne 8, 3) := by decide +kernel
theorem dJxf58ca_floatToIntBits_5c35a_7 : decode cJxf58ca_floatToIntBits_5c35a 7 = .ok (.fload_n 0, 1) := by decide +kernel
theorem dJxf58ca_floatToIntBits_5c35a_8 : decode cJxf58ca_floatToIntBits_5c35a 8 = .ok (.invokestatic 74, 3) := by decide +kernel
theorem dJxf58ca_floatToIntBits_5c35a_11 : decode cJxf58ca_floatToIntBits_5c35a 11 = .ok (.ireturn, 1) := by decide +kernel
theorem dJxf58ca_floatToIntBits_5c35a_12 : decode cJxf58ca_floatToIntBits_5c35a 12 = .ok (.ldc 77, 2) := by decide +kernel
theorem dJxf58ca_floatToIntBits_5c35a_14 : decode cJxf58ca_floatToIntBits_5c35a 14 = .ok (.ireturn, 1) := by decide +kernel
theorem dJ9_abs_0f7a4_0 : decode cJ9_abs_0f7a4 0 = .ok (.iload_n 0, 1) := by decide +kernel
theorem dJ9_abs_0f7a4_1 : decode cJ9_abs_0f7a4 1 = .ok (.ifCond .ge 8, 3) := by decide +kernel
theorem dJ9_abs_0f7a4_4 : decode cJ9_abs_0f7a4 4 = .ok (.iload_n 0, 1) := by decide +kernel
theorem dJ9_abs_0f7a4_5 : decode cJ9_abs_0f7a4 5 = .ok (.ineg, 1) := by decide +kernel
theorem dJ9_abs_0f7a4_6 : decode cJ9_abs_0f7a4 6 = .ok (.goto 4, 3) := by decide +kernel
theorem dJ9_abs_0f7a4_9 : decode cJ9_abs_0f7a4 9 = .ok (.iload_n 0, 1) := by decide +kernel
theorem dJ9_abs_0f7a4_10 : decode cJ9_abs_0f7a4 10 = .ok (.ireturn, 1) := by decide +kernel
theorem dJ9_abs_067f4_0 : decode cJ9_abs_067f4 0 = .ok (.lload_n 0, 1) := by decide +kernel
theorem dJ9_abs_067f4_1 : decode cJ9_abs_067f4 1 = .ok (.lconst 0, 1) := by decide +kernel
theorem dJ9_abs_067f4_2 : decode cJ9_abs_067f4 2 = .ok (.lcmp, 1) := by decide +kernel
theorem dJ9_abs_067f4_3 : decode cJ9_abs_067f4 3 = .ok (.ifCond .ge 8, 3) := by decide +kernel
theorem dJ9_abs_067f4_6 : decode cJ9_abs_067f4 6 = .ok (.lload_n 0, 1) := by decide +kernel
theorem dJ9_abs_067f4_7 : decode cJ9_abs_067f4 7 = .ok (.lneg, 1) := by decide +kernel
theorem dJ9_abs_067f4_8 : decode cJ9_abs_067f4 8 = .ok (.goto 4, 3) := by decide +kernel
theorem dJ9_abs_067f4_11 : decode cJ9_abs_067f4 11 = .ok (.lload_n 0, 1) := by decide +kernel
theorem dJ9_abs_067f4_12 : decode cJ9_abs_067f4 12 = .ok (.lreturn, 1) := by decide +kernel
theorem dJ9_max_7cf53_0 : decode cJ9_max_7cf53 0 = .ok (.iload_n 0, 1) := by decide +kernel
theorem dJ9_max_7cf53_1 : decode cJ9_max_7cf53 1 = .ok (.iload_n 1, 1) := by decide +kernel
theorem dJ9_max_7cf53_2 : decode cJ9_max_7cf53 2 = .ok (.if_icmp .lt 7, 3) := by decide +kernel
theorem dJ9_max_7cf53_5 : decode cJ9_max_7cf53 5 = .ok (.iload_n 0, 1) := by decide +kernel
theorem dJ9_max_7cf53_6 : decode cJ9_max_7cf53 6 = .ok (.goto 4, 3) := by decide +kernel
theorem dJ9_max_7cf53_9 : decode cJ9_max_7cf53 9 = .ok (.iload_n 1, 1) := by decide +kernel
theorem dJ9_max_7cf53_10 : decode cJ9_max_7cf53 10 = .ok (.ireturn, 1) := by decide +kernel
theorem dJ9_min_7cf53_0 : decode cJ9_min_7cf53 0 = .ok (.iload_n 0, 1) := by decide +kernel
theorem dJ9_min_7cf53_1 : decode cJ9_min_7cf53 1 = .ok (.iload_n 1, 1) := by decide +kernel
theorem dJ9_min_7cf53_2 : decode cJ9_min_7cf53 2 = .ok (.if_icmp .gt 7, 3) := by decide +kernel
theorem dJ9_min_7cf53_5 : decode cJ9_min_7cf53 5 = .ok (.iload_n 0, 1) := by decide +kernel
theorem dJ9_min_7cf53_6 : decode cJ9_min_7cf53 6 = .ok (.goto 4, 3) := by decide +kernel
theorem dJ9_min_7cf53_9 : decode cJ9_min_7cf53 9 = .ok (.iload_n 1, 1) := by decide +kernel
theorem dJ9_min_7cf53_10 : decode cJ9_min_7cf53 10 = .ok (.ireturn, 1) := by decide +kernel

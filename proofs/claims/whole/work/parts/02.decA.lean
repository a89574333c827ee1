theorem dX0_init_0 : decode cX0_init 0 = .ok (.aload_n 0, 1) := by decide +kernel
theorem dX0_init_1 : decode cX0_init 1 = .ok (.invokespecial 3, 3) := by decide +kernel
theorem dX0_init_4 : decode cX0_init 4 = .ok (.aload_n 0, 1) := by decide +kernel
theorem dX0_init_5 : decode cX0_init 5 = .ok (.sipush 801, 3) := by decide +kernel
theorem dX0_init_8 : decode cX0_init 8 = .ok (.newarray .int, 2) := by decide +kernel
theorem dX0_init_10 : decode cX0_init 10 = .ok (.putfield 9, 3) := by decide +kernel
theorem dX0_init_13 : decode cX0_init 13 = .ok (.iconst 0, 1) := by decide +kernel
theorem dX0_init_14 : decode cX0_init 14 = .ok (.istore_n 1, 1) := by decide +kernel
theorem dX0_init_15 : decode cX0_init 15 = .ok (.iload_n 1, 1) := by decide +kernel
theorem dX0_init_16 : decode cX0_init 16 = .ok (.bipush 28, 2) := by decide +kernel
theorem dX0_init_18 : decode cX0_init 18 = .ok (.if_icmp .gt 68, 3) := by decide +kernel
theorem dX0_init_21 : decode cX0_init 21 = .ok (.iconst 0, 1) := by decide +kernel
theorem dX0_init_22 : decode cX0_init 22 = .ok (.istore_n 2, 1) := by decide +kernel
theorem dX0_init_23 : decode cX0_init 23 = .ok (.iload_n 2, 1) := by decide +kernel
theorem dX0_init_24 : decode cX0_init 24 = .ok (.bipush 28, 2) := by decide +kernel
theorem dX0_init_26 : decode cX0_init 26 = .ok (.if_icmp .gt 54, 3) := by decide +kernel
theorem dX0_init_29 : decode cX0_init 29 = .ok (.iload_n 1, 1) := by decide +kernel
theorem dX0_init_30 : decode cX0_init 30 = .ok (.iload_n 1, 1) := by decide +kernel
theorem dX0_init_31 : decode cX0_init 31 = .ok (.imul, 1) := by decide +kernel
theorem dX0_init_32 : decode cX0_init 32 = .ok (.iload_n 2, 1) := by decide +kernel
theorem dX0_init_33 : decode cX0_init 33 = .ok (.iload_n 2, 1) := by decide +kernel
theorem dX0_init_34 : decode cX0_init 34 = .ok (.imul, 1) := by decide +kernel
theorem dX0_init_35 : decode cX0_init 35 = .ok (.iadd, 1) := by decide +kernel
theorem dX0_init_36 : decode cX0_init 36 = .ok (.istore_n 3, 1) := by decide +kernel
theorem dX0_init_37 : decode cX0_init 37 = .ok (.iload_n 3, 1) := by decide +kernel
theorem dX0_init_38 : decode cX0_init 38 = .ok (.aload_n 0, 1) := by decide +kernel
theorem dX0_init_39 : decode cX0_init 39 = .ok (.getfield 9, 3) := by decide +kernel
theorem dX0_init_42 : decode cX0_init 42 = .ok (.arraylength, 1) := by decide +kernel
theorem dX0_init_43 : decode cX0_init 43 = .ok (.if_icmp .ge 31, 3) := by decide +kernel
theorem dX0_init_46 : decode cX0_init 46 = .ok (.aload_n 0, 1) := by decide +kernel
theorem dX0_init_47 : decode cX0_init 47 = .ok (.getfield 9, 3) := by decide +kernel
theorem dX0_init_50 : decode cX0_init 50 = .ok (.iload_n 3, 1) := by decide +kernel
theorem dX0_init_51 : decode cX0_init 51 = .ok (.dup2, 1) := by decide +kernel
theorem dX0_init_52 : decode cX0_init 52 = .ok (.iaload, 1) := by decide +kernel
theorem dX0_init_53 : decode cX0_init 53 = .ok (.iload_n 1, 1) := by decide +kernel
theorem dX0_init_54 : decode cX0_init 54 = .ok (.ifCond .ne 7, 3) := by decide +kernel
theorem dX0_init_57 : decode cX0_init 57 = .ok (.iconst 1, 1) := by decide +kernel
theorem dX0_init_58 : decode cX0_init 58 = .ok (.goto 4, 3) := by decide +kernel
theorem dX0_init_61 : decode cX0_init 61 = .ok (.iconst 2, 1) := by decide +kernel
theorem dX0_init_62 : decode cX0_init 62 = .ok (.iload_n 2, 1) := by decide +kernel
theorem dX0_init_63 : decode cX0_init 63 = .ok (.ifCond .ne 7, 3) := by decide +kernel
theorem dX0_init_66 : decode cX0_init 66 = .ok (.iconst 1, 1) := by decide +kernel
theorem dX0_init_67 : decode cX0_init 67 = .ok (.goto 4, 3) := by decide +kernel
theorem dX0_init_70 : decode cX0_init 70 = .ok (.iconst 2, 1) := by decide +kernel
theorem dX0_init_71 : decode cX0_init 71 = .ok (.imul, 1) := by decide +kernel
theorem dX0_init_72 : decode cX0_init 72 = .ok (.iadd, 1) := by decide +kernel
theorem dX0_init_73 : decode cX0_init 73 = .ok (.iastore, 1) := by decide +kernel
theorem dX0_init_74 : decode cX0_init 74 = .ok (.iinc 2 1, 3) := by decide +kernel
theorem dX0_init_77 : decode cX0_init 77 = .ok (.goto (-54), 3) := by decide +kernel
theorem dX0_init_80 : decode cX0_init 80 = .ok (.iinc 1 1, 3) := by decide +kernel
theorem dX0_init_83 : decode cX0_init 83 = .ok (.goto (-68), 3) := by decide +kernel
theorem dX0_init_86 : decode cX0_init 86 = .ok (.return_, 1) := by decide +kernel
theorem dX0_countAll_0 : decode cX0_countAll 0 = .ok (.iconst 0, 1) := by decide +kernel
theorem dX0_countAll_1 : decode cX0_countAll 1 = .ok (.istore_n 1, 1) := by decide +kernel
theorem dX0_countAll_2 : decode cX0_countAll 2 = .ok (.iconst 1, 1) := by decide +kernel
theorem dX0_countAll_3 : decode cX0_countAll 3 = .ok (.istore_n 2, 1) := by decide +kernel
theorem dX0_countAll_4 : decode cX0_countAll 4 = .ok (.iload_n 2, 1) := by decide +kernel
theorem dX0_countAll_5 : decode cX0_countAll 5 = .ok (.iload_n 0, 1) := by decide +kernel
theorem dX0_countAll_6 : decode cX0_countAll 6 = .ok (.if_icmp .gt 19, 3) := by decide +kernel
theorem dX0_countAll_9 : decode cX0_countAll 9 = .ok (.iload_n 0, 1) := by decide +kernel
theorem dX0_countAll_10 : decode cX0_countAll 10 = .ok (.iload_n 2, 1) := by decide +kernel
theorem dX0_countAll_11 : decode cX0_countAll 11 = .ok (.irem, 1) := by decide +kernel
theorem dX0_countAll_12 : decode cX0_countAll 12 = .ok (.ifCond .ne 7, 3) := by decide +kernel
theorem dX0_countAll_15 : decode cX0_countAll 15 = .ok (.iload_n 1, 1) := by decide +kernel
theorem dX0_countAll_16 : decode cX0_countAll 16 = .ok (.iload_n 2, 1) := by decide +kernel
theorem dX0_countAll_17 : decode cX0_countAll 17 = .ok (.iadd, 1) := by decide +kernel
theorem dX0_countAll_18 : decode cX0_countAll 18 = .ok (.istore_n 1, 1) := by decide +kernel
theorem dX0_countAll_19 : decode cX0_countAll 19 = .ok (.iinc 2 2, 3) := by decide +kernel
theorem dX0_countAll_22 : decode cX0_countAll 22 = .ok (.goto (-18), 3) := by decide +kernel
theorem dX0_countAll_25 : decode cX0_countAll 25 = .ok (.bipush 24, 2) := by decide +kernel
theorem dX0_countAll_27 : decode cX0_countAll 27 = .ok (.iload_n 1, 1) := by decide +kernel
theorem dX0_countAll_28 : decode cX0_countAll 28 = .ok (.imul, 1) := by decide +kernel
theorem dX0_countAll_29 : decode cX0_countAll 29 = .ok (.ireturn, 1) := by decide +kernel
theorem dX0_countWhole_0 : decode cX0_countWhole 0 = .ok (.iconst 0, 1) := by decide +kernel
theorem dX0_countWhole_1 : decode cX0_countWhole 1 = .ok (.istore_n 1, 1) := by decide +kernel
theorem dX0_countWhole_2 : decode cX0_countWhole 2 = .ok (.iconst 1, 1) := by decide +kernel
theorem dX0_countWhole_3 : decode cX0_countWhole 3 = .ok (.istore_n 2, 1) := by decide +kernel
theorem dX0_countWhole_4 : decode cX0_countWhole 4 = .ok (.iload_n 2, 1) := by decide +kernel
theorem dX0_countWhole_5 : decode cX0_countWhole 5 = .ok (.iload_n 0, 1) := by decide +kernel
theorem dX0_countWhole_6 : decode cX0_countWhole 6 = .ok (.if_icmp .gt 25, 3) := by decide +kernel
theorem dX0_countWhole_9 : decode cX0_countWhole 9 = .ok (.iload_n 0, 1) := by decide +kernel
theorem dX0_countWhole_10 : decode cX0_countWhole 10 = .ok (.iload_n 2, 1) := by decide +kernel
theorem dX0_countWhole_11 : decode cX0_countWhole 11 = .ok (.irem, 1) := by decide +kernel
theorem dX0_countWhole_12 : decode cX0_countWhole 12 = .ok (.ifCond .ne 13, 3) := by decide +kernel
theorem dX0_countWhole_15 : decode cX0_countWhole 15 = .ok (.iload_n 2, 1) := by decide +kernel
theorem dX0_countWhole_16 : decode cX0_countWhole 16 = .ok (.iconst 4, 1) := by decide +kernel
theorem dX0_countWhole_17 : decode cX0_countWhole 17 = .ok (.irem, 1) := by decide +kernel
theorem dX0_countWhole_18 : decode cX0_countWhole 18 = .ok (.ifCond .eq 7, 3) := by decide +kernel
theorem dX0_countWhole_21 : decode cX0_countWhole 21 = .ok (.iload_n 1, 1) := by decide +kernel
theorem dX0_countWhole_22 : decode cX0_countWhole 22 = .ok (.iload_n 2, 1) := by decide +kernel
theorem dX0_countWhole_23 : decode cX0_countWhole 23 = .ok (.iadd, 1) := by decide +kernel
theorem dX0_countWhole_24 : decode cX0_countWhole 24 = .ok (.istore_n 1, 1) := by decide +kernel
theorem dX0_countWhole_25 : decode cX0_countWhole 25 = .ok (.iinc 2 1, 3) := by decide +kernel
theorem dX0_countWhole_28 : decode cX0_countWhole 28 = .ok (.goto (-24), 3) := by decide +kernel
theorem dX0_countWhole_31 : decode cX0_countWhole 31 = .ok (.bipush 8, 2) := by decide +kernel
theorem dX0_countWhole_33 : decode cX0_countWhole 33 = .ok (.iload_n 1, 1) := by decide +kernel
theorem dX0_countWhole_34 : decode cX0_countWhole 34 = .ok (.imul, 1) := by decide +kernel
theorem dX0_countWhole_35 : decode cX0_countWhole 35 = .ok (.ireturn, 1) := by decide +kernel
set_option maxRecDepth 20000 in
theorem ggX0_countPrimitive_X0_countAll : GoodIn wsX0_countPrimitive wsX0_countAll := goodIn_r _ [5] (by decide +kernel) (by decide +kernel)
set_option maxRecDepth 20000 in
theorem gX0_countPrimitive_X0_countAll : GoodIn wsX0_countPrimitive (va_wsS RX0 18 yX0_countAll wsX0_countAll) := goodIn_app (goodIn_of _ (by decide +kernel)) ggX0_countPrimitive_X0_countAll
theorem dX0_countPrimitive_0 : decode cX0_countPrimitive 0 = .ok (.iconst 0, 1) := by decide +kernel
theorem dX0_countPrimitive_1 : decode cX0_countPrimitive 1 = .ok (.istore_n 1, 1) := by decide +kernel
theorem dX0_countPrimitive_2 : decode cX0_countPrimitive 2 = .ok (.iconst 1, 1) := by decide +kernel
theorem dX0_countPrimitive_3 : decode cX0_countPrimitive 3 = .ok (.istore_n 2, 1) := by decide +kernel
theorem dX0_countPrimitive_4 : decode cX0_countPrimitive 4 = .ok (.iload_n 2, 1) := by decide +kernel
theorem dX0_countPrimitive_5 : decode cX0_countPrimitive 5 = .ok (.getstatic 15, 3) := by decide +kernel
theorem dX0_countPrimitive_8 : decode cX0_countPrimitive 8 = .ok (.arraylength, 1) := by decide +kernel
theorem dX0_countPrimitive_9 : decode cX0_countPrimitive 9 = .ok (.if_icmp .ge 34, 3) := by decide +kernel
theorem dX0_countPrimitive_12 : decode cX0_countPrimitive 12 = .ok (.iload_n 0, 1) := by decide +kernel
theorem dX0_countPrimitive_13 : decode cX0_countPrimitive 13 = .ok (.iload_n 2, 1) := by decide +kernel
theorem dX0_countPrimitive_14 : decode cX0_countPrimitive 14 = .ok (.iload_n 2, 1) := by decide +kernel
theorem dX0_countPrimitive_15 : decode cX0_countPrimitive 15 = .ok (.imul, 1) := by decide +kernel
theorem dX0_countPrimitive_16 : decode cX0_countPrimitive 16 = .ok (.irem, 1) := by decide +kernel
theorem dX0_countPrimitive_17 : decode cX0_countPrimitive 17 = .ok (.ifCond .ne 20, 3) := by decide +kernel
theorem dX0_countPrimitive_20 : decode cX0_countPrimitive 20 = .ok (.iload_n 1, 1) := by decide +kernel
theorem dX0_countPrimitive_21 : decode cX0_countPrimitive 21 = .ok (.getstatic 15, 3) := by decide +kernel
theorem dX0_countPrimitive_24 : decode cX0_countPrimitive 24 = .ok (.iload_n 2, 1) := by decide +kernel
theorem dX0_countPrimitive_25 : decode cX0_countPrimitive 25 = .ok (.iaload, 1) := by decide +kernel
theorem dX0_countPrimitive_26 : decode cX0_countPrimitive 26 = .ok (.iload_n 0, 1) := by decide +kernel
theorem dX0_countPrimitive_27 : decode cX0_countPrimitive 27 = .ok (.iload_n 2, 1) := by decide +kernel
theorem dX0_countPrimitive_28 : decode cX0_countPrimitive 28 = .ok (.iload_n 2, 1) := by decide +kernel
theorem dX0_countPrimitive_29 : decode cX0_countPrimitive 29 = .ok (.imul, 1) := by decide +kernel
theorem dX0_countPrimitive_30 : decode cX0_countPrimitive 30 = .ok (.idiv, 1) := by decide +kernel
theorem dX0_countPrimitive_31 : decode cX0_countPrimitive 31 = .ok (.invokestatic 18, 3) := by decide +kernel
theorem dX0_countPrimitive_34 : decode cX0_countPrimitive 34 = .ok (.imul, 1) := by decide +kernel
theorem dX0_countPrimitive_35 : decode cX0_countPrimitive 35 = .ok (.iadd, 1) := by decide +kernel
theorem dX0_countPrimitive_36 : decode cX0_countPrimitive 36 = .ok (.istore_n 1, 1) := by decide +kernel
theorem dX0_countPrimitive_37 : decode cX0_countPrimitive 37 = .ok (.iinc 2 1, 3) := by decide +kernel
theorem dX0_countPrimitive_40 : decode cX0_countPrimitive 40 = .ok (.goto (-36), 3) := by decide +kernel
theorem dX0_countPrimitive_43 : decode cX0_countPrimitive 43 = .ok (.iload_n 1, 1) := by decide +kernel
theorem dX0_countPrimitive_44 : decode cX0_countPrimitive 44 = .ok (.ireturn, 1) := by decide +kernel
set_option maxRecDepth 20000 in
theorem ggX0_find_X0_pairsWith : GoodIn wsX0_find wsX0_pairsWith := goodIn_r _ [5, 6, 19] (by decide +kernel) (by decide +kernel)
set_option maxRecDepth 20000 in
theorem gX0_find_X0_pairsWith : GoodIn wsX0_find (wsV RX0 22 RX0 yX0_pairsWith wsX0_pairsWith) := goodIn_app (goodIn_of _ (by decide +kernel)) ggX0_find_X0_pairsWith
set_option maxRecDepth 20000 in
theorem ggX0_find_X0_findPair : GoodIn wsX0_find wsX0_findPair := goodIn_r _ [9, 10, 11, 12, 13, 14, 15, 16, 17, 18, 20, 21, 22, 23] (by decide +kernel) (by decide +kernel)
set_option maxRecDepth 20000 in
theorem gX0_find_X0_findPair : GoodIn wsX0_find (va_wsS RX0 25 yX0_findPair wsX0_findPair) := goodIn_app (goodIn_of _ (by decide +kernel)) ggX0_find_X0_findPair
theorem dX0_find_0 : decode cX0_find 0 = .ok (.iload_n 2, 1) := by decide +kernel
theorem dX0_find_1 : decode cX0_find 1 = .ok (.istore 4, 2) := by decide +kernel
theorem dX0_find_3 : decode cX0_find 3 = .ok (.bipush 28, 2) := by decide +kernel
theorem dX0_find_5 : decode cX0_find 5 = .ok (.istore 5, 2) := by decide +kernel
theorem dX0_find_7 : decode cX0_find 7 = .ok (.iload 5, 2) := by decide +kernel
theorem dX0_find_9 : decode cX0_find 9 = .ok (.bipush (-28), 2) := by decide +kernel
theorem dX0_find_11 : decode cX0_find 11 = .ok (.if_icmp .lt 83, 3) := by decide +kernel
theorem dX0_find_14 : decode cX0_find 14 = .ok (.bipush 28, 2) := by decide +kernel
theorem dX0_find_16 : decode cX0_find 16 = .ok (.iload 5, 2) := by decide +kernel
theorem dX0_find_18 : decode cX0_find 18 = .ok (.iconst 1, 1) := by decide +kernel
theorem dX0_find_19 : decode cX0_find 19 = .ok (.iand, 1) := by decide +kernel
theorem dX0_find_20 : decode cX0_find 20 = .ok (.isub, 1) := by decide +kernel
theorem dX0_find_21 : decode cX0_find 21 = .ok (.istore 6, 2) := by decide +kernel
theorem dX0_find_23 : decode cX0_find 23 = .ok (.iload 6, 2) := by decide +kernel
theorem dX0_find_25 : decode cX0_find 25 = .ok (.bipush (-28), 2) := by decide +kernel
theorem dX0_find_27 : decode cX0_find 27 = .ok (.if_icmp .lt 61, 3) := by decide +kernel
theorem dX0_find_30 : decode cX0_find 30 = .ok (.iconst 4, 1) := by decide +kernel
theorem dX0_find_31 : decode cX0_find 31 = .ok (.iload_n 1, 1) := by decide +kernel
theorem dX0_find_32 : decode cX0_find 32 = .ok (.imul, 1) := by decide +kernel
theorem dX0_find_33 : decode cX0_find 33 = .ok (.iload 5, 2) := by decide +kernel
theorem dX0_find_35 : decode cX0_find 35 = .ok (.iload 5, 2) := by decide +kernel
theorem dX0_find_37 : decode cX0_find 37 = .ok (.imul, 1) := by decide +kernel
theorem dX0_find_38 : decode cX0_find 38 = .ok (.isub, 1) := by decide +kernel
theorem dX0_find_39 : decode cX0_find 39 = .ok (.iload 6, 2) := by decide +kernel
theorem dX0_find_41 : decode cX0_find 41 = .ok (.iload 6, 2) := by decide +kernel
theorem dX0_find_43 : decode cX0_find 43 = .ok (.imul, 1) := by decide +kernel
theorem dX0_find_44 : decode cX0_find 44 = .ok (.isub, 1) := by decide +kernel
theorem dX0_find_45 : decode cX0_find 45 = .ok (.istore 7, 2) := by decide +kernel
theorem dX0_find_47 : decode cX0_find 47 = .ok (.aload_n 0, 1) := by decide +kernel
theorem dX0_find_48 : decode cX0_find 48 = .ok (.iload 7, 2) := by decide +kernel
theorem dX0_find_50 : decode cX0_find 50 = .ok (.invokevirtual 22, 3) := by decide +kernel
theorem dX0_find_53 : decode cX0_find 53 = .ok (.istore 8, 2) := by decide +kernel
theorem dX0_find_55 : decode cX0_find 55 = .ok (.iload 4, 2) := by decide +kernel
theorem dX0_find_57 : decode cX0_find 57 = .ok (.iload 8, 2) := by decide +kernel
theorem dX0_find_59 : decode cX0_find 59 = .ok (.if_icmp .ge 16, 3) := by decide +kernel
theorem dX0_find_62 : decode cX0_find 62 = .ok (.iload 7, 2) := by decide +kernel
theorem dX0_find_64 : decode cX0_find 64 = .ok (.iload 4, 2) := by decide +kernel
theorem dX0_find_66 : decode cX0_find 66 = .ok (.iload 5, 2) := by decide +kernel
theorem dX0_find_68 : decode cX0_find 68 = .ok (.iload 6, 2) := by decide +kernel
theorem dX0_find_70 : decode cX0_find 70 = .ok (.aload_n 3, 1) := by decide +kernel
theorem dX0_find_71 : decode cX0_find 71 = .ok (.invokestatic 25, 3) := by decide +kernel
theorem dX0_find_74 : decode cX0_find 74 = .ok (.ireturn, 1) := by decide +kernel
theorem dX0_find_75 : decode cX0_find 75 = .ok (.iload 4, 2) := by decide +kernel
theorem dX0_find_77 : decode cX0_find 77 = .ok (.iload 8, 2) := by decide +kernel
theorem dX0_find_79 : decode cX0_find 79 = .ok (.isub, 1) := by decide +kernel
theorem dX0_find_80 : decode cX0_find 80 = .ok (.istore 4, 2) := by decide +kernel
theorem dX0_find_82 : decode cX0_find 82 = .ok (.iinc 6 (-2), 3) := by decide +kernel
theorem dX0_find_85 : decode cX0_find 85 = .ok (.goto (-62), 3) := by decide +kernel
theorem dX0_find_88 : decode cX0_find 88 = .ok (.iinc 5 (-1), 3) := by decide +kernel
theorem dX0_find_91 : decode cX0_find 91 = .ok (.goto (-84), 3) := by decide +kernel
theorem dX0_find_94 : decode cX0_find 94 = .ok (.iconst 0, 1) := by decide +kernel
theorem dX0_find_95 : decode cX0_find 95 = .ok (.ireturn, 1) := by decide +kernel
theorem dX0_pairsWith_0 : decode cX0_pairsWith 0 = .ok (.iload_n 1, 1) := by decide +kernel
theorem dX0_pairsWith_1 : decode cX0_pairsWith 1 = .ok (.ifCond .lt 21, 3) := by decide +kernel
theorem dX0_pairsWith_4 : decode cX0_pairsWith 4 = .ok (.iload_n 1, 1) := by decide +kernel
theorem dX0_pairsWith_5 : decode cX0_pairsWith 5 = .ok (.aload_n 0, 1) := by decide +kernel
theorem dX0_pairsWith_6 : decode cX0_pairsWith 6 = .ok (.getfield 9, 3) := by decide +kernel
theorem dX0_pairsWith_9 : decode cX0_pairsWith 9 = .ok (.arraylength, 1) := by decide +kernel
theorem dX0_pairsWith_10 : decode cX0_pairsWith 10 = .ok (.if_icmp .ge 12, 3) := by decide +kernel
theorem dX0_pairsWith_13 : decode cX0_pairsWith 13 = .ok (.aload_n 0, 1) := by decide +kernel
theorem dX0_pairsWith_14 : decode cX0_pairsWith 14 = .ok (.getfield 9, 3) := by decide +kernel
theorem dX0_pairsWith_17 : decode cX0_pairsWith 17 = .ok (.iload_n 1, 1) := by decide +kernel
theorem dX0_pairsWith_18 : decode cX0_pairsWith 18 = .ok (.iaload, 1) := by decide +kernel
theorem dX0_pairsWith_19 : decode cX0_pairsWith 19 = .ok (.goto 4, 3) := by decide +kernel
theorem dX0_pairsWith_22 : decode cX0_pairsWith 22 = .ok (.iconst 0, 1) := by decide +kernel
theorem dX0_pairsWith_23 : decode cX0_pairsWith 23 = .ok (.ireturn, 1) := by decide +kernel
set_option maxRecDepth 20000 in
theorem ggX0_findPair_X1_become : GoodIn wsX0_findPair wsX1_become := goodIn_r _ [5, 6, 7, 8, 9, 10, 11, 12, 13] (by decide +kernel) (by decide +kernel)
set_option maxRecDepth 20000 in
theorem gX0_findPair_X1_become : GoodIn wsX0_findPair (wsV RX0 29 RX1 yX1_become wsX1_become) := goodIn_app (goodIn_of _ (by decide +kernel)) ggX0_findPair_X1_become
theorem dX0_findPair_0 : decode cX0_findPair 0 = .ok (.iload_n 1, 1) := by decide +kernel
theorem dX0_findPair_1 : decode cX0_findPair 1 = .ok (.istore 5, 2) := by decide +kernel
theorem dX0_findPair_3 : decode cX0_findPair 3 = .ok (.bipush 28, 2) := by decide +kernel
theorem dX0_findPair_5 : decode cX0_findPair 5 = .ok (.istore 6, 2) := by decide +kernel
theorem dX0_findPair_7 : decode cX0_findPair 7 = .ok (.iload 6, 2) := by decide +kernel
theorem dX0_findPair_9 : decode cX0_findPair 9 = .ok (.bipush (-28), 2) := by decide +kernel
theorem dX0_findPair_11 : decode cX0_findPair 11 = .ok (.if_icmp .lt 66, 3) := by decide +kernel
theorem dX0_findPair_14 : decode cX0_findPair 14 = .ok (.bipush 28, 2) := by decide +kernel
theorem dX0_findPair_16 : decode cX0_findPair 16 = .ok (.istore 7, 2) := by decide +kernel
theorem dX0_findPair_18 : decode cX0_findPair 18 = .ok (.iload 7, 2) := by decide +kernel
theorem dX0_findPair_20 : decode cX0_findPair 20 = .ok (.bipush (-28), 2) := by decide +kernel
theorem dX0_findPair_22 : decode cX0_findPair 22 = .ok (.if_icmp .lt 49, 3) := by decide +kernel
theorem dX0_findPair_25 : decode cX0_findPair 25 = .ok (.iload 6, 2) := by decide +kernel
theorem dX0_findPair_27 : decode cX0_findPair 27 = .ok (.iload 6, 2) := by decide +kernel
theorem dX0_findPair_29 : decode cX0_findPair 29 = .ok (.imul, 1) := by decide +kernel
theorem dX0_findPair_30 : decode cX0_findPair 30 = .ok (.iload 7, 2) := by decide +kernel
theorem dX0_findPair_32 : decode cX0_findPair 32 = .ok (.iload 7, 2) := by decide +kernel
theorem dX0_findPair_34 : decode cX0_findPair 34 = .ok (.imul, 1) := by decide +kernel
theorem dX0_findPair_35 : decode cX0_findPair 35 = .ok (.iadd, 1) := by decide +kernel
theorem dX0_findPair_36 : decode cX0_findPair 36 = .ok (.iload_n 0, 1) := by decide +kernel
theorem dX0_findPair_37 : decode cX0_findPair 37 = .ok (.if_icmp .ne 28, 3) := by decide +kernel
theorem dX0_findPair_40 : decode cX0_findPair 40 = .ok (.iload 5, 2) := by decide +kernel
theorem dX0_findPair_42 : decode cX0_findPair 42 = .ok (.ifCond .ne 20, 3) := by decide +kernel
theorem dX0_findPair_45 : decode cX0_findPair 45 = .ok (.aload 4, 2) := by decide +kernel
theorem dX0_findPair_47 : decode cX0_findPair 47 = .ok (.iload_n 2, 1) := by decide +kernel
theorem dX0_findPair_48 : decode cX0_findPair 48 = .ok (.i2l, 1) := by decide +kernel
theorem dX0_findPair_49 : decode cX0_findPair 49 = .ok (.iload_n 3, 1) := by decide +kernel
theorem dX0_findPair_50 : decode cX0_findPair 50 = .ok (.i2l, 1) := by decide +kernel
theorem dX0_findPair_51 : decode cX0_findPair 51 = .ok (.iload 6, 2) := by decide +kernel
theorem dX0_findPair_53 : decode cX0_findPair 53 = .ok (.i2l, 1) := by decide +kernel
theorem dX0_findPair_54 : decode cX0_findPair 54 = .ok (.iload 7, 2) := by decide +kernel
theorem dX0_findPair_56 : decode cX0_findPair 56 = .ok (.i2l, 1) := by decide +kernel
theorem dX0_findPair_57 : decode cX0_findPair 57 = .ok (.invokevirtual 29, 3) := by decide +kernel
theorem dX0_findPair_60 : decode cX0_findPair 60 = .ok (.iconst 1, 1) := by decide +kernel
theorem dX0_findPair_61 : decode cX0_findPair 61 = .ok (.ireturn, 1) := by decide +kernel
theorem dX0_findPair_62 : decode cX0_findPair 62 = .ok (.iinc 5 (-1), 3) := by decide +kernel
theorem dX0_findPair_65 : decode cX0_findPair 65 = .ok (.iinc 7 (-1), 3) := by decide +kernel
theorem dX0_findPair_68 : decode cX0_findPair 68 = .ok (.goto (-50), 3) := by decide +kernel
theorem dX0_findPair_71 : decode cX0_findPair 71 = .ok (.iinc 6 (-1), 3) := by decide +kernel
theorem dX0_findPair_74 : decode cX0_findPair 74 = .ok (.goto (-67), 3) := by decide +kernel
theorem dX0_findPair_77 : decode cX0_findPair 77 = .ok (.iconst 0, 1) := by decide +kernel
theorem dX0_findPair_78 : decode cX0_findPair 78 = .ok (.ireturn, 1) := by decide +kernel
theorem dX1_init_0 : decode cX1_init 0 = .ok (.aload_n 0, 1) := by decide +kernel
theorem dX1_init_1 : decode cX1_init 1 = .ok (.invokespecial 3, 3) := by decide +kernel
theorem dX1_init_4 : decode cX1_init 4 = .ok (.return_, 1) := by decide +kernel
theorem dX1_become_0 : decode cX1_become 0 = .ok (.aload_n 0, 1) := by decide +kernel
theorem dX1_become_1 : decode cX1_become 1 = .ok (.lload_n 1, 1) := by decide +kernel
theorem dX1_become_2 : decode cX1_become 2 = .ok (.putfield 9, 3) := by decide +kernel
theorem dX1_become_5 : decode cX1_become 5 = .ok (.aload_n 0, 1) := by decide +kernel
theorem dX1_become_6 : decode cX1_become 6 = .ok (.lload_n 3, 1) := by decide +kernel
theorem dX1_become_7 : decode cX1_become 7 = .ok (.putfield 15, 3) := by decide +kernel
theorem dX1_become_10 : decode cX1_become 10 = .ok (.aload_n 0, 1) := by decide +kernel
theorem dX1_become_11 : decode cX1_become 11 = .ok (.lload 5, 2) := by decide +kernel
theorem dX1_become_13 : decode cX1_become 13 = .ok (.putfield 18, 3) := by decide +kernel
theorem dX1_become_16 : decode cX1_become 16 = .ok (.aload_n 0, 1) := by decide +kernel
theorem dX1_become_17 : decode cX1_become 17 = .ok (.lload 7, 2) := by decide +kernel
theorem dX1_become_19 : decode cX1_become 19 = .ok (.putfield 21, 3) := by decide +kernel
theorem dX1_become_22 : decode cX1_become 22 = .ok (.return_, 1) := by decide +kernel
set_option maxRecDepth 20000 in
theorem ggX1_becomeLike_X1_become : GoodIn wsX1_becomeLike wsX1_become := goodIn_r _ [9, 1, 2, 3, 4, 10, 11, 12, 13] (by decide +kernel) (by decide +kernel)
set_option maxRecDepth 20000 in
theorem gX1_becomeLike_X1_become : GoodIn wsX1_becomeLike (wsV RX1 24 RX1 yX1_become wsX1_become) := goodIn_app (goodIn_of _ (by decide +kernel)) ggX1_becomeLike_X1_become
theorem dX1_becomeLike_0 : decode cX1_becomeLike 0 = .ok (.aload_n 0, 1) := by decide +kernel
theorem dX1_becomeLike_1 : decode cX1_becomeLike 1 = .ok (.aload_n 1, 1) := by decide +kernel
theorem dX1_becomeLike_2 : decode cX1_becomeLike 2 = .ok (.getfield 9, 3) := by decide +kernel
theorem dX1_becomeLike_5 : decode cX1_becomeLike 5 = .ok (.aload_n 1, 1) := by decide +kernel
theorem dX1_becomeLike_6 : decode cX1_becomeLike 6 = .ok (.getfield 15, 3) := by decide +kernel
theorem dX1_becomeLike_9 : decode cX1_becomeLike 9 = .ok (.aload_n 1, 1) := by decide +kernel
theorem dX1_becomeLike_10 : decode cX1_becomeLike 10 = .ok (.getfield 18, 3) := by decide +kernel
theorem dX1_becomeLike_13 : decode cX1_becomeLike 13 = .ok (.aload_n 1, 1) := by decide +kernel
theorem dX1_becomeLike_14 : decode cX1_becomeLike 14 = .ok (.getfield 21, 3) := by decide +kernel
theorem dX1_becomeLike_17 : decode cX1_becomeLike 17 = .ok (.invokevirtual 24, 3) := by decide +kernel
theorem dX1_becomeLike_20 : decode cX1_becomeLike 20 = .ok (.return_, 1) := by decide +kernel
set_option maxRecDepth 20000 in
theorem ggX1_becomeSum_X1_become : GoodIn wsX1_becomeSum wsX1_become := goodIn_r _ [9, 1, 2, 3, 4, 10, 11, 12, 13] (by decide +kernel) (by decide +kernel)
set_option maxRecDepth 20000 in
theorem gX1_becomeSum_X1_become : GoodIn wsX1_becomeSum (wsV RX1 24 RX1 yX1_become wsX1_become) := goodIn_app (goodIn_of _ (by decide +kernel)) ggX1_becomeSum_X1_become
theorem dX1_becomeSum_0 : decode cX1_becomeSum 0 = .ok (.aload_n 0, 1) := by decide +kernel
theorem dX1_becomeSum_1 : decode cX1_becomeSum 1 = .ok (.aload_n 1, 1) := by decide +kernel
theorem dX1_becomeSum_2 : decode cX1_becomeSum 2 = .ok (.getfield 9, 3) := by decide +kernel
theorem dX1_becomeSum_5 : decode cX1_becomeSum 5 = .ok (.aload_n 2, 1) := by decide +kernel
theorem dX1_becomeSum_6 : decode cX1_becomeSum 6 = .ok (.getfield 9, 3) := by decide +kernel
theorem dX1_becomeSum_9 : decode cX1_becomeSum 9 = .ok (.ladd, 1) := by decide +kernel
theorem dX1_becomeSum_10 : decode cX1_becomeSum 10 = .ok (.aload_n 1, 1) := by decide +kernel
theorem dX1_becomeSum_11 : decode cX1_becomeSum 11 = .ok (.getfield 15, 3) := by decide +kernel
theorem dX1_becomeSum_14 : decode cX1_becomeSum 14 = .ok (.aload_n 2, 1) := by decide +kernel
theorem dX1_becomeSum_15 : decode cX1_becomeSum 15 = .ok (.getfield 15, 3) := by decide +kernel
theorem dX1_becomeSum_18 : decode cX1_becomeSum 18 = .ok (.ladd, 1) := by decide +kernel
theorem dX1_becomeSum_19 : decode cX1_becomeSum 19 = .ok (.aload_n 1, 1) := by decide +kernel
theorem dX1_becomeSum_20 : decode cX1_becomeSum 20 = .ok (.getfield 18, 3) := by decide +kernel
theorem dX1_becomeSum_23 : decode cX1_becomeSum 23 = .ok (.aload_n 2, 1) := by decide +kernel
theorem dX1_becomeSum_24 : decode cX1_becomeSum 24 = .ok (.getfield 18, 3) := by decide +kernel
theorem dX1_becomeSum_27 : decode cX1_becomeSum 27 = .ok (.ladd, 1) := by decide +kernel
theorem dX1_becomeSum_28 : decode cX1_becomeSum 28 = .ok (.aload_n 1, 1) := by decide +kernel
theorem dX1_becomeSum_29 : decode cX1_becomeSum 29 = .ok (.getfield 21, 3) := by decide +kernel
theorem dX1_becomeSum_32 : decode cX1_becomeSum 32 = .ok (.aload_n 2, 1) := by decide +kernel
theorem dX1_becomeSum_33 : decode cX1_becomeSum 33 = .ok (.getfield 21, 3) := by decide +kernel
theorem dX1_becomeSum_36 : decode cX1_becomeSum 36 = .ok (.ladd, 1) := by decide +kernel
theorem dX1_becomeSum_37 : decode cX1_becomeSum 37 = .ok (.invokevirtual 24, 3) := by decide +kernel
theorem dX1_becomeSum_40 : decode cX1_becomeSum 40 = .ok (.return_, 1) := by decide +kernel
set_option maxRecDepth 20000 in
theorem ggX1_becomeDifference_X1_become : GoodIn wsX1_becomeDifference wsX1_become := goodIn_r _ [9, 1, 2, 3, 4, 10, 11, 12, 13] (by decide +kernel) (by decide +kernel)
set_option maxRecDepth 20000 in
theorem gX1_becomeDifference_X1_become : GoodIn wsX1_becomeDifference (wsV RX1 24 RX1 yX1_become wsX1_become) := goodIn_app (goodIn_of _ (by decide +kernel)) ggX1_becomeDifference_X1_become
theorem dX1_becomeDifference_0 : decode cX1_becomeDifference 0 = .ok (.aload_n 0, 1) := by decide +kernel
theorem dX1_becomeDifference_1 : decode cX1_becomeDifference 1 = .ok (.aload_n 1, 1) := by decide +kernel
theorem dX1_becomeDifference_2 : decode cX1_becomeDifference 2 = .ok (.getfield 9, 3) := by decide +kernel
theorem dX1_becomeDifference_5 : decode cX1_becomeDifference 5 = .ok (.aload_n 2, 1) := by decide +kernel
theorem dX1_becomeDifference_6 : decode cX1_becomeDifference 6 = .ok (.getfield 9, 3) := by decide +kernel
theorem dX1_becomeDifference_9 : decode cX1_becomeDifference 9 = .ok (.lsub, 1) := by decide +kernel
theorem dX1_becomeDifference_10 : decode cX1_becomeDifference 10 = .ok (.aload_n 1, 1) := by decide +kernel
theorem dX1_becomeDifference_11 : decode cX1_becomeDifference 11 = .ok (.getfield 15, 3) := by decide +kernel
theorem dX1_becomeDifference_14 : decode cX1_becomeDifference 14 = .ok (.aload_n 2, 1) := by decide +kernel
theorem dX1_becomeDifference_15 : decode cX1_becomeDifference 15 = .ok (.getfield 15, 3) := by decide +kernel
theorem dX1_becomeDifference_18 : decode cX1_becomeDifference 18 = .ok (.lsub, 1) := by decide +kernel
theorem dX1_becomeDifference_19 : decode cX1_becomeDifference 19 = .ok (.aload_n 1, 1) := by decide +kernel
theorem dX1_becomeDifference_20 : decode cX1_becomeDifference 20 = .ok (.getfield 18, 3) := by decide +kernel
theorem dX1_becomeDifference_23 : decode cX1_becomeDifference 23 = .ok (.aload_n 2, 1) := by decide +kernel
theorem dX1_becomeDifference_24 : decode cX1_becomeDifference 24 = .ok (.getfield 18, 3) := by decide +kernel
theorem dX1_becomeDifference_27 : decode cX1_becomeDifference 27 = .ok (.lsub, 1) := by decide +kernel
theorem dX1_becomeDifference_28 : decode cX1_becomeDifference 28 = .ok (.aload_n 1, 1) := by decide +kernel
theorem dX1_becomeDifference_29 : decode cX1_becomeDifference 29 = .ok (.getfield 21, 3) := by decide +kernel
theorem dX1_becomeDifference_32 : decode cX1_becomeDifference 32 = .ok (.aload_n 2, 1) := by decide +kernel
theorem dX1_becomeDifference_33 : decode cX1_becomeDifference 33 = .ok (.getfield 21, 3) := by decide +kernel
theorem dX1_becomeDifference_36 : decode cX1_becomeDifference 36 = .ok (.lsub, 1) := by decide +kernel
theorem dX1_becomeDifference_37 : decode cX1_becomeDifference 37 = .ok (.invokevirtual 24, 3) := by decide +kernel
theorem dX1_becomeDifference_40 : decode cX1_becomeDifference 40 = .ok (.return_, 1) := by decide +kernel
set_option maxRecDepth 20000 in
theorem ggX1_becomeMirror_X1_become : GoodIn wsX1_becomeMirror wsX1_become := goodIn_r _ [9, 1, 2, 3, 4, 10, 11, 12, 13] (by decide +kernel) (by decide +kernel)
set_option maxRecDepth 20000 in
theorem gX1_becomeMirror_X1_become : GoodIn wsX1_becomeMirror (wsV RX1 24 RX1 yX1_become wsX1_become) := goodIn_app (goodIn_of _ (by decide +kernel)) ggX1_becomeMirror_X1_become
theorem dX1_becomeMirror_0 : decode cX1_becomeMirror 0 = .ok (.aload_n 0, 1) := by decide +kernel
theorem dX1_becomeMirror_1 : decode cX1_becomeMirror 1 = .ok (.aload_n 1, 1) := by decide +kernel
theorem dX1_becomeMirror_2 : decode cX1_becomeMirror 2 = .ok (.getfield 9, 3) := by decide +kernel
theorem dX1_becomeMirror_5 : decode cX1_becomeMirror 5 = .ok (.aload_n 1, 1) := by decide +kernel
theorem dX1_becomeMirror_6 : decode cX1_becomeMirror 6 = .ok (.getfield 15, 3) := by decide +kernel
theorem dX1_becomeMirror_9 : decode cX1_becomeMirror 9 = .ok (.lneg, 1) := by decide +kernel
theorem dX1_becomeMirror_10 : decode cX1_becomeMirror 10 = .ok (.aload_n 1, 1) := by decide +kernel
theorem dX1_becomeMirror_11 : decode cX1_becomeMirror 11 = .ok (.getfield 18, 3) := by decide +kernel
theorem dX1_becomeMirror_14 : decode cX1_becomeMirror 14 = .ok (.lneg, 1) := by decide +kernel
theorem dX1_becomeMirror_15 : decode cX1_becomeMirror 15 = .ok (.aload_n 1, 1) := by decide +kernel
theorem dX1_becomeMirror_16 : decode cX1_becomeMirror 16 = .ok (.getfield 21, 3) := by decide +kernel
theorem dX1_becomeMirror_19 : decode cX1_becomeMirror 19 = .ok (.lneg, 1) := by decide +kernel
theorem dX1_becomeMirror_20 : decode cX1_becomeMirror 20 = .ok (.invokevirtual 24, 3) := by decide +kernel
theorem dX1_becomeMirror_23 : decode cX1_becomeMirror 23 = .ok (.return_, 1) := by decide +kernel
set_option maxRecDepth 20000 in
theorem ggX1_becomeProduct_X1_become : GoodIn wsX1_becomeProduct wsX1_become := goodIn_r _ [10, 1, 2, 3, 4, 11, 12, 13, 14] (by decide +kernel) (by decide +kernel)
set_option maxRecDepth 20000 in
theorem gX1_becomeProduct_X1_become : GoodIn wsX1_becomeProduct (wsV RX1 24 RX1 yX1_become wsX1_become) := goodIn_app (goodIn_of _ (by decide +kernel)) ggX1_becomeProduct_X1_become
theorem dX1_becomeProduct_0 : decode cX1_becomeProduct 0 = .ok (.aload_n 0, 1) := by decide +kernel
theorem dX1_becomeProduct_1 : decode cX1_becomeProduct 1 = .ok (.aload_n 1, 1) := by decide +kernel
theorem dX1_becomeProduct_2 : decode cX1_becomeProduct 2 = .ok (.getfield 9, 3) := by decide +kernel
theorem dX1_becomeProduct_5 : decode cX1_becomeProduct 5 = .ok (.aload_n 2, 1) := by decide +kernel
theorem dX1_becomeProduct_6 : decode cX1_becomeProduct 6 = .ok (.getfield 9, 3) := by decide +kernel
theorem dX1_becomeProduct_9 : decode cX1_becomeProduct 9 = .ok (.lmul, 1) := by decide +kernel
theorem dX1_becomeProduct_10 : decode cX1_becomeProduct 10 = .ok (.aload_n 1, 1) := by decide +kernel
theorem dX1_becomeProduct_11 : decode cX1_becomeProduct 11 = .ok (.getfield 15, 3) := by decide +kernel
theorem dX1_becomeProduct_14 : decode cX1_becomeProduct 14 = .ok (.aload_n 2, 1) := by decide +kernel
theorem dX1_becomeProduct_15 : decode cX1_becomeProduct 15 = .ok (.getfield 15, 3) := by decide +kernel
theorem dX1_becomeProduct_18 : decode cX1_becomeProduct 18 = .ok (.lmul, 1) := by decide +kernel
theorem dX1_becomeProduct_19 : decode cX1_becomeProduct 19 = .ok (.lsub, 1) := by decide +kernel
theorem dX1_becomeProduct_20 : decode cX1_becomeProduct 20 = .ok (.aload_n 1, 1) := by decide +kernel
theorem dX1_becomeProduct_21 : decode cX1_becomeProduct 21 = .ok (.getfield 18, 3) := by decide +kernel
theorem dX1_becomeProduct_24 : decode cX1_becomeProduct 24 = .ok (.aload_n 2, 1) := by decide +kernel
theorem dX1_becomeProduct_25 : decode cX1_becomeProduct 25 = .ok (.getfield 18, 3) := by decide +kernel
theorem dX1_becomeProduct_28 : decode cX1_becomeProduct 28 = .ok (.lmul, 1) := by decide +kernel
theorem dX1_becomeProduct_29 : decode cX1_becomeProduct 29 = .ok (.lsub, 1) := by decide +kernel
theorem dX1_becomeProduct_30 : decode cX1_becomeProduct 30 = .ok (.aload_n 1, 1) := by decide +kernel
theorem dX1_becomeProduct_31 : decode cX1_becomeProduct 31 = .ok (.getfield 21, 3) := by decide +kernel
theorem dX1_becomeProduct_34 : decode cX1_becomeProduct 34 = .ok (.aload_n 2, 1) := by decide +kernel
theorem dX1_becomeProduct_35 : decode cX1_becomeProduct 35 = .ok (.getfield 21, 3) := by decide +kernel
theorem dX1_becomeProduct_38 : decode cX1_becomeProduct 38 = .ok (.lmul, 1) := by decide +kernel
theorem dX1_becomeProduct_39 : decode cX1_becomeProduct 39 = .ok (.lsub, 1) := by decide +kernel
theorem dX1_becomeProduct_40 : decode cX1_becomeProduct 40 = .ok (.ldc2_w 28, 3) := by decide +kernel
theorem dX1_becomeProduct_43 : decode cX1_becomeProduct 43 = .ok (.ldiv, 1) := by decide +kernel
theorem dX1_becomeProduct_44 : decode cX1_becomeProduct 44 = .ok (.aload_n 1, 1) := by decide +kernel
theorem dX1_becomeProduct_45 : decode cX1_becomeProduct 45 = .ok (.getfield 9, 3) := by decide +kernel
theorem dX1_becomeProduct_48 : decode cX1_becomeProduct 48 = .ok (.aload_n 2, 1) := by decide +kernel
theorem dX1_becomeProduct_49 : decode cX1_becomeProduct 49 = .ok (.getfield 15, 3) := by decide +kernel
theorem dX1_becomeProduct_52 : decode cX1_becomeProduct 52 = .ok (.lmul, 1) := by decide +kernel
theorem dX1_becomeProduct_53 : decode cX1_becomeProduct 53 = .ok (.aload_n 1, 1) := by decide +kernel
theorem dX1_becomeProduct_54 : decode cX1_becomeProduct 54 = .ok (.getfield 15, 3) := by decide +kernel
theorem dX1_becomeProduct_57 : decode cX1_becomeProduct 57 = .ok (.aload_n 2, 1) := by decide +kernel
theorem dX1_becomeProduct_58 : decode cX1_becomeProduct 58 = .ok (.getfield 9, 3) := by decide +kernel
theorem dX1_becomeProduct_61 : decode cX1_becomeProduct 61 = .ok (.lmul, 1) := by decide +kernel
theorem dX1_becomeProduct_62 : decode cX1_becomeProduct 62 = .ok (.ladd, 1) := by decide +kernel
theorem dX1_becomeProduct_63 : decode cX1_becomeProduct 63 = .ok (.aload_n 1, 1) := by decide +kernel
theorem dX1_becomeProduct_64 : decode cX1_becomeProduct 64 = .ok (.getfield 18, 3) := by decide +kernel
theorem dX1_becomeProduct_67 : decode cX1_becomeProduct 67 = .ok (.aload_n 2, 1) := by decide +kernel
theorem dX1_becomeProduct_68 : decode cX1_becomeProduct 68 = .ok (.getfield 21, 3) := by decide +kernel
theorem dX1_becomeProduct_71 : decode cX1_becomeProduct 71 = .ok (.lmul, 1) := by decide +kernel
theorem dX1_becomeProduct_72 : decode cX1_becomeProduct 72 = .ok (.ladd, 1) := by decide +kernel
theorem dX1_becomeProduct_73 : decode cX1_becomeProduct 73 = .ok (.aload_n 1, 1) := by decide +kernel
theorem dX1_becomeProduct_74 : decode cX1_becomeProduct 74 = .ok (.getfield 21, 3) := by decide +kernel
theorem dX1_becomeProduct_77 : decode cX1_becomeProduct 77 = .ok (.aload_n 2, 1) := by decide +kernel
theorem dX1_becomeProduct_78 : decode cX1_becomeProduct 78 = .ok (.getfield 18, 3) := by decide +kernel
theorem dX1_becomeProduct_81 : decode cX1_becomeProduct 81 = .ok (.lmul, 1) := by decide +kernel
theorem dX1_becomeProduct_82 : decode cX1_becomeProduct 82 = .ok (.lsub, 1) := by decide +kernel
theorem dX1_becomeProduct_83 : decode cX1_becomeProduct 83 = .ok (.ldc2_w 28, 3) := by decide +kernel
theorem dX1_becomeProduct_86 : decode cX1_becomeProduct 86 = .ok (.ldiv, 1) := by decide +kernel
theorem dX1_becomeProduct_87 : decode cX1_becomeProduct 87 = .ok (.aload_n 1, 1) := by decide +kernel
theorem dX1_becomeProduct_88 : decode cX1_becomeProduct 88 = .ok (.getfield 9, 3) := by decide +kernel
theorem dX1_becomeProduct_91 : decode cX1_becomeProduct 91 = .ok (.aload_n 2, 1) := by decide +kernel
theorem dX1_becomeProduct_92 : decode cX1_becomeProduct 92 = .ok (.getfield 18, 3) := by decide +kernel
theorem dX1_becomeProduct_95 : decode cX1_becomeProduct 95 = .ok (.lmul, 1) := by decide +kernel
theorem dX1_becomeProduct_96 : decode cX1_becomeProduct 96 = .ok (.aload_n 1, 1) := by decide +kernel
theorem dX1_becomeProduct_97 : decode cX1_becomeProduct 97 = .ok (.getfield 15, 3) := by decide +kernel
theorem dX1_becomeProduct_100 : decode cX1_becomeProduct 100 = .ok (.aload_n 2, 1) := by decide +kernel
theorem dX1_becomeProduct_101 : decode cX1_becomeProduct 101 = .ok (.getfield 21, 3) := by decide +kernel
theorem dX1_becomeProduct_104 : decode cX1_becomeProduct 104 = .ok (.lmul, 1) := by decide +kernel
theorem dX1_becomeProduct_105 : decode cX1_becomeProduct 105 = .ok (.lsub, 1) := by decide +kernel
theorem dX1_becomeProduct_106 : decode cX1_becomeProduct 106 = .ok (.aload_n 1, 1) := by decide +kernel
theorem dX1_becomeProduct_107 : decode cX1_becomeProduct 107 = .ok (.getfield 18, 3) := by decide +kernel
theorem dX1_becomeProduct_110 : decode cX1_becomeProduct 110 = .ok (.aload_n 2, 1) := by decide +kernel
theorem dX1_becomeProduct_111 : decode cX1_becomeProduct 111 = .ok (.getfield 9, 3) := by decide +kernel
theorem dX1_becomeProduct_114 : decode cX1_becomeProduct 114 = .ok (.lmul, 1) := by decide +kernel
theorem dX1_becomeProduct_115 : decode cX1_becomeProduct 115 = .ok (.ladd, 1) := by decide +kernel
theorem dX1_becomeProduct_116 : decode cX1_becomeProduct 116 = .ok (.aload_n 1, 1) := by decide +kernel
theorem dX1_becomeProduct_117 : decode cX1_becomeProduct 117 = .ok (.getfield 21, 3) := by decide +kernel
theorem dX1_becomeProduct_120 : decode cX1_becomeProduct 120 = .ok (.aload_n 2, 1) := by decide +kernel
theorem dX1_becomeProduct_121 : decode cX1_becomeProduct 121 = .ok (.getfield 15, 3) := by decide +kernel
theorem dX1_becomeProduct_124 : decode cX1_becomeProduct 124 = .ok (.lmul, 1) := by decide +kernel
theorem dX1_becomeProduct_125 : decode cX1_becomeProduct 125 = .ok (.ladd, 1) := by decide +kernel
theorem dX1_becomeProduct_126 : decode cX1_becomeProduct 126 = .ok (.ldc2_w 28, 3) := by decide +kernel
theorem dX1_becomeProduct_129 : decode cX1_becomeProduct 129 = .ok (.ldiv, 1) := by decide +kernel
theorem dX1_becomeProduct_130 : decode cX1_becomeProduct 130 = .ok (.aload_n 1, 1) := by decide +kernel
theorem dX1_becomeProduct_131 : decode cX1_becomeProduct 131 = .ok (.getfield 9, 3) := by decide +kernel
theorem dX1_becomeProduct_134 : decode cX1_becomeProduct 134 = .ok (.aload_n 2, 1) := by decide +kernel
theorem dX1_becomeProduct_135 : decode cX1_becomeProduct 135 = .ok (.getfield 21, 3) := by decide +kernel
theorem dX1_becomeProduct_138 : decode cX1_becomeProduct 138 = .ok (.lmul, 1) := by decide +kernel
theorem dX1_becomeProduct_139 : decode cX1_becomeProduct 139 = .ok (.aload_n 1, 1) := by decide +kernel
theorem dX1_becomeProduct_140 : decode cX1_becomeProduct 140 = .ok (.getfield 15, 3) := by decide +kernel
theorem dX1_becomeProduct_143 : decode cX1_becomeProduct 143 = .ok (.aload_n 2, 1) := by decide +kernel
theorem dX1_becomeProduct_144 : decode cX1_becomeProduct 144 = .ok (.getfield 18, 3) := by decide +kernel
theorem dX1_becomeProduct_147 : decode cX1_becomeProduct 147 = .ok (.lmul, 1) := by decide +kernel
theorem dX1_becomeProduct_148 : decode cX1_becomeProduct 148 = .ok (.ladd, 1) := by decide +kernel
theorem dX1_becomeProduct_149 : decode cX1_becomeProduct 149 = .ok (.aload_n 1, 1) := by decide +kernel
theorem dX1_becomeProduct_150 : decode cX1_becomeProduct 150 = .ok (.getfield 18, 3) := by decide +kernel
theorem dX1_becomeProduct_153 : decode cX1_becomeProduct 153 = .ok (.aload_n 2, 1) := by decide +kernel
theorem dX1_becomeProduct_154 : decode cX1_becomeProduct 154 = .ok (.getfield 15, 3) := by decide +kernel
theorem dX1_becomeProduct_157 : decode cX1_becomeProduct 157 = .ok (.lmul, 1) := by decide +kernel
theorem dX1_becomeProduct_158 : decode cX1_becomeProduct 158 = .ok (.lsub, 1) := by decide +kernel
theorem dX1_becomeProduct_159 : decode cX1_becomeProduct 159 = .ok (.aload_n 1, 1) := by decide +kernel
theorem dX1_becomeProduct_160 : decode cX1_becomeProduct 160 = .ok (.getfield 21, 3) := by decide +kernel
theorem dX1_becomeProduct_163 : decode cX1_becomeProduct 163 = .ok (.aload_n 2, 1) := by decide +kernel
theorem dX1_becomeProduct_164 : decode cX1_becomeProduct 164 = .ok (.getfield 9, 3) := by decide +kernel
theorem dX1_becomeProduct_167 : decode cX1_becomeProduct 167 = .ok (.lmul, 1) := by decide +kernel
theorem dX1_becomeProduct_168 : decode cX1_becomeProduct 168 = .ok (.ladd, 1) := by decide +kernel
theorem dX1_becomeProduct_169 : decode cX1_becomeProduct 169 = .ok (.ldc2_w 28, 3) := by decide +kernel
theorem dX1_becomeProduct_172 : decode cX1_becomeProduct 172 = .ok (.ldiv, 1) := by decide +kernel
theorem dX1_becomeProduct_173 : decode cX1_becomeProduct 173 = .ok (.invokevirtual 24, 3) := by decide +kernel
theorem dX1_becomeProduct_176 : decode cX1_becomeProduct 176 = .ok (.return_, 1) := by decide +kernel
set_option maxRecDepth 20000 in
theorem ggX1_becomeProductOn_X1_becomeProduct : GoodIn wsX1_becomeProductOn wsX1_becomeProduct := goodIn_r _ [5, 6, 7, 8, 9, 10, 11, 12, 13, 4, 14, 15, 16, 17, 18] (by decide +kernel) (by decide +kernel)
set_option maxRecDepth 20000 in
theorem gX1_becomeProductOn_X1_becomeProduct : GoodIn wsX1_becomeProductOn (wsV RX1 30 RX1 yX1_becomeProduct wsX1_becomeProduct) := goodIn_app (goodIn_of _ (by decide +kernel)) ggX1_becomeProductOn_X1_becomeProduct
theorem dX1_becomeProductOn_0 : decode cX1_becomeProductOn 0 = .ok (.iload_n 1, 1) := by decide +kernel
theorem dX1_becomeProductOn_1 : decode cX1_becomeProductOn 1 = .ok (.ifCond .ne 12, 3) := by decide +kernel
theorem dX1_becomeProductOn_4 : decode cX1_becomeProductOn 4 = .ok (.aload_n 0, 1) := by decide +kernel
theorem dX1_becomeProductOn_5 : decode cX1_becomeProductOn 5 = .ok (.aload_n 2, 1) := by decide +kernel
theorem dX1_becomeProductOn_6 : decode cX1_becomeProductOn 6 = .ok (.aload_n 3, 1) := by decide +kernel
theorem dX1_becomeProductOn_7 : decode cX1_becomeProductOn 7 = .ok (.invokevirtual 30, 3) := by decide +kernel
theorem dX1_becomeProductOn_10 : decode cX1_becomeProductOn 10 = .ok (.goto 9, 3) := by decide +kernel
theorem dX1_becomeProductOn_13 : decode cX1_becomeProductOn 13 = .ok (.aload_n 0, 1) := by decide +kernel
theorem dX1_becomeProductOn_14 : decode cX1_becomeProductOn 14 = .ok (.aload_n 3, 1) := by decide +kernel
theorem dX1_becomeProductOn_15 : decode cX1_becomeProductOn 15 = .ok (.aload_n 2, 1) := by decide +kernel
theorem dX1_becomeProductOn_16 : decode cX1_becomeProductOn 16 = .ok (.invokevirtual 30, 3) := by decide +kernel
theorem dX1_becomeProductOn_19 : decode cX1_becomeProductOn 19 = .ok (.return_, 1) := by decide +kernel
set_option maxRecDepth 20000 in
theorem ggX1_becomeUnit_X1_become : GoodIn wsX1_becomeUnit wsX1_become := goodIn_r _ [5, 6, 7, 8, 9, 10, 11, 12, 13] (by decide +kernel) (by decide +kernel)
set_option maxRecDepth 20000 in
theorem gX1_becomeUnit_X1_become : GoodIn wsX1_becomeUnit (wsV RX1 24 RX1 yX1_become wsX1_become) := goodIn_app (goodIn_of _ (by decide +kernel)) ggX1_becomeUnit_X1_become
theorem dX1_becomeUnit_0 : decode cX1_becomeUnit 0 = .ok (.iload_n 1, 1) := by decide +kernel
theorem dX1_becomeUnit_1 : decode cX1_becomeUnit 1 = .ok (.ifCond .lt 9, 3) := by decide +kernel
theorem dX1_becomeUnit_4 : decode cX1_becomeUnit 4 = .ok (.iload_n 1, 1) := by decide +kernel
theorem dX1_becomeUnit_5 : decode cX1_becomeUnit 5 = .ok (.bipush 24, 2) := by decide +kernel
theorem dX1_becomeUnit_7 : decode cX1_becomeUnit 7 = .ok (.if_icmp .lt 4, 3) := by decide +kernel
theorem dX1_becomeUnit_10 : decode cX1_becomeUnit 10 = .ok (.return_, 1) := by decide +kernel
theorem dX1_becomeUnit_11 : decode cX1_becomeUnit 11 = .ok (.aload_n 0, 1) := by decide +kernel
theorem dX1_becomeUnit_12 : decode cX1_becomeUnit 12 = .ok (.getstatic 34, 3) := by decide +kernel
theorem dX1_becomeUnit_15 : decode cX1_becomeUnit 15 = .ok (.iconst 4, 1) := by decide +kernel
theorem dX1_becomeUnit_16 : decode cX1_becomeUnit 16 = .ok (.iload_n 1, 1) := by decide +kernel
theorem dX1_becomeUnit_17 : decode cX1_becomeUnit 17 = .ok (.imul, 1) := by decide +kernel
theorem dX1_becomeUnit_18 : decode cX1_becomeUnit 18 = .ok (.iaload, 1) := by decide +kernel
theorem dX1_becomeUnit_19 : decode cX1_becomeUnit 19 = .ok (.i2l, 1) := by decide +kernel
theorem dX1_becomeUnit_20 : decode cX1_becomeUnit 20 = .ok (.getstatic 34, 3) := by decide +kernel
theorem dX1_becomeUnit_23 : decode cX1_becomeUnit 23 = .ok (.iconst 4, 1) := by decide +kernel
theorem dX1_becomeUnit_24 : decode cX1_becomeUnit 24 = .ok (.iload_n 1, 1) := by decide +kernel
theorem dX1_becomeUnit_25 : decode cX1_becomeUnit 25 = .ok (.imul, 1) := by decide +kernel
theorem dX1_becomeUnit_26 : decode cX1_becomeUnit 26 = .ok (.iconst 1, 1) := by decide +kernel
theorem dX1_becomeUnit_27 : decode cX1_becomeUnit 27 = .ok (.iadd, 1) := by decide +kernel
theorem dX1_becomeUnit_28 : decode cX1_becomeUnit 28 = .ok (.iaload, 1) := by decide +kernel
theorem dX1_becomeUnit_29 : decode cX1_becomeUnit 29 = .ok (.i2l, 1) := by decide +kernel
theorem dX1_becomeUnit_30 : decode cX1_becomeUnit 30 = .ok (.getstatic 34, 3) := by decide +kernel
theorem dX1_becomeUnit_33 : decode cX1_becomeUnit 33 = .ok (.iconst 4, 1) := by decide +kernel
theorem dX1_becomeUnit_34 : decode cX1_becomeUnit 34 = .ok (.iload_n 1, 1) := by decide +kernel
theorem dX1_becomeUnit_35 : decode cX1_becomeUnit 35 = .ok (.imul, 1) := by decide +kernel
theorem dX1_becomeUnit_36 : decode cX1_becomeUnit 36 = .ok (.iconst 2, 1) := by decide +kernel
theorem dX1_becomeUnit_37 : decode cX1_becomeUnit 37 = .ok (.iadd, 1) := by decide +kernel
theorem dX1_becomeUnit_38 : decode cX1_becomeUnit 38 = .ok (.iaload, 1) := by decide +kernel
theorem dX1_becomeUnit_39 : decode cX1_becomeUnit 39 = .ok (.i2l, 1) := by decide +kernel
theorem dX1_becomeUnit_40 : decode cX1_becomeUnit 40 = .ok (.getstatic 34, 3) := by decide +kernel
theorem dX1_becomeUnit_43 : decode cX1_becomeUnit 43 = .ok (.iconst 4, 1) := by decide +kernel
theorem dX1_becomeUnit_44 : decode cX1_becomeUnit 44 = .ok (.iload_n 1, 1) := by decide +kernel
theorem dX1_becomeUnit_45 : decode cX1_becomeUnit 45 = .ok (.imul, 1) := by decide +kernel
theorem dX1_becomeUnit_46 : decode cX1_becomeUnit 46 = .ok (.iconst 3, 1) := by decide +kernel
theorem dX1_becomeUnit_47 : decode cX1_becomeUnit 47 = .ok (.iadd, 1) := by decide +kernel
theorem dX1_becomeUnit_48 : decode cX1_becomeUnit 48 = .ok (.iaload, 1) := by decide +kernel
theorem dX1_becomeUnit_49 : decode cX1_becomeUnit 49 = .ok (.i2l, 1) := by decide +kernel
theorem dX1_becomeUnit_50 : decode cX1_becomeUnit 50 = .ok (.invokevirtual 24, 3) := by decide +kernel
theorem dX1_becomeUnit_53 : decode cX1_becomeUnit 53 = .ok (.return_, 1) := by decide +kernel
set_option maxRecDepth 20000 in
theorem ggX1_becomeNearestWholes_X1_nearestWhole : GoodIn wsX1_becomeNearestWholes wsX1_nearestWhole := goodIn_r _ [8, 9, 10, 11, 12, 13] (by decide +kernel) (by decide +kernel)
set_option maxRecDepth 20000 in
theorem gX1_becomeNearestWholes_X1_nearestWhole : GoodIn wsX1_becomeNearestWholes (va_wsS RX1 38 yX1_nearestWhole wsX1_nearestWhole) := goodIn_app (goodIn_of _ (by decide +kernel)) ggX1_becomeNearestWholes_X1_nearestWhole
set_option maxRecDepth 20000 in
theorem ggX1_becomeNearestWholes_X1_become : GoodIn wsX1_becomeNearestWholes wsX1_become := goodIn_r _ [17, 1, 2, 3, 4, 18, 19, 20, 21] (by decide +kernel) (by decide +kernel)
set_option maxRecDepth 20000 in
theorem gX1_becomeNearestWholes_X1_become : GoodIn wsX1_becomeNearestWholes (wsV RX1 24 RX1 yX1_become wsX1_become) := goodIn_app (goodIn_of _ (by decide +kernel)) ggX1_becomeNearestWholes_X1_become
theorem dX1_becomeNearestWholes_0 : decode cX1_becomeNearestWholes 0 = .ok (.aload_n 0, 1) := by decide +kernel
theorem dX1_becomeNearestWholes_1 : decode cX1_becomeNearestWholes 1 = .ok (.aload_n 1, 1) := by decide +kernel
theorem dX1_becomeNearestWholes_2 : decode cX1_becomeNearestWholes 2 = .ok (.getfield 9, 3) := by decide +kernel
theorem dX1_becomeNearestWholes_5 : decode cX1_becomeNearestWholes 5 = .ok (.lload_n 2, 1) := by decide +kernel
theorem dX1_becomeNearestWholes_6 : decode cX1_becomeNearestWholes 6 = .ok (.invokestatic 38, 3) := by decide +kernel
theorem dX1_becomeNearestWholes_9 : decode cX1_becomeNearestWholes 9 = .ok (.aload_n 1, 1) := by decide +kernel
theorem dX1_becomeNearestWholes_10 : decode cX1_becomeNearestWholes 10 = .ok (.getfield 15, 3) := by decide +kernel
theorem dX1_becomeNearestWholes_13 : decode cX1_becomeNearestWholes 13 = .ok (.lload_n 2, 1) := by decide +kernel
theorem dX1_becomeNearestWholes_14 : decode cX1_becomeNearestWholes 14 = .ok (.invokestatic 38, 3) := by decide +kernel
theorem dX1_becomeNearestWholes_17 : decode cX1_becomeNearestWholes 17 = .ok (.aload_n 1, 1) := by decide +kernel
theorem dX1_becomeNearestWholes_18 : decode cX1_becomeNearestWholes 18 = .ok (.getfield 18, 3) := by decide +kernel
theorem dX1_becomeNearestWholes_21 : decode cX1_becomeNearestWholes 21 = .ok (.lload_n 2, 1) := by decide +kernel
theorem dX1_becomeNearestWholes_22 : decode cX1_becomeNearestWholes 22 = .ok (.invokestatic 38, 3) := by decide +kernel
theorem dX1_becomeNearestWholes_25 : decode cX1_becomeNearestWholes 25 = .ok (.aload_n 1, 1) := by decide +kernel
theorem dX1_becomeNearestWholes_26 : decode cX1_becomeNearestWholes 26 = .ok (.getfield 21, 3) := by decide +kernel
theorem dX1_becomeNearestWholes_29 : decode cX1_becomeNearestWholes 29 = .ok (.lload_n 2, 1) := by decide +kernel
theorem dX1_becomeNearestWholes_30 : decode cX1_becomeNearestWholes 30 = .ok (.invokestatic 38, 3) := by decide +kernel
theorem dX1_becomeNearestWholes_33 : decode cX1_becomeNearestWholes 33 = .ok (.invokevirtual 24, 3) := by decide +kernel
theorem dX1_becomeNearestWholes_36 : decode cX1_becomeNearestWholes 36 = .ok (.return_, 1) := by decide +kernel
set_option maxRecDepth 20000 in
theorem ggX1_becomeNearestHalves_X1_nearestHalf : GoodIn wsX1_becomeNearestHalves wsX1_nearestHalf := goodIn_r _ [8, 9, 10, 11, 12, 13] (by decide +kernel) (by decide +kernel)
set_option maxRecDepth 20000 in
theorem gX1_becomeNearestHalves_X1_nearestHalf : GoodIn wsX1_becomeNearestHalves (va_wsS RX1 42 yX1_nearestHalf wsX1_nearestHalf) := goodIn_app (goodIn_of _ (by decide +kernel)) ggX1_becomeNearestHalves_X1_nearestHalf
set_option maxRecDepth 20000 in
theorem ggX1_becomeNearestHalves_X1_become : GoodIn wsX1_becomeNearestHalves wsX1_become := goodIn_r _ [17, 1, 2, 3, 4, 18, 19, 20, 21] (by decide +kernel) (by decide +kernel)
set_option maxRecDepth 20000 in
theorem gX1_becomeNearestHalves_X1_become : GoodIn wsX1_becomeNearestHalves (wsV RX1 24 RX1 yX1_become wsX1_become) := goodIn_app (goodIn_of _ (by decide +kernel)) ggX1_becomeNearestHalves_X1_become
theorem dX1_becomeNearestHalves_0 : decode cX1_becomeNearestHalves 0 = .ok (.aload_n 0, 1) := by decide +kernel
theorem dX1_becomeNearestHalves_1 : decode cX1_becomeNearestHalves 1 = .ok (.aload_n 1, 1) := by decide +kernel
theorem dX1_becomeNearestHalves_2 : decode cX1_becomeNearestHalves 2 = .ok (.getfield 9, 3) := by decide +kernel
theorem dX1_becomeNearestHalves_5 : decode cX1_becomeNearestHalves 5 = .ok (.lload_n 2, 1) := by decide +kernel
theorem dX1_becomeNearestHalves_6 : decode cX1_becomeNearestHalves 6 = .ok (.invokestatic 42, 3) := by decide +kernel
theorem dX1_becomeNearestHalves_9 : decode cX1_becomeNearestHalves 9 = .ok (.aload_n 1, 1) := by decide +kernel
theorem dX1_becomeNearestHalves_10 : decode cX1_becomeNearestHalves 10 = .ok (.getfield 15, 3) := by decide +kernel
theorem dX1_becomeNearestHalves_13 : decode cX1_becomeNearestHalves 13 = .ok (.lload_n 2, 1) := by decide +kernel
theorem dX1_becomeNearestHalves_14 : decode cX1_becomeNearestHalves 14 = .ok (.invokestatic 42, 3) := by decide +kernel
theorem dX1_becomeNearestHalves_17 : decode cX1_becomeNearestHalves 17 = .ok (.aload_n 1, 1) := by decide +kernel
theorem dX1_becomeNearestHalves_18 : decode cX1_becomeNearestHalves 18 = .ok (.getfield 18, 3) := by decide +kernel
theorem dX1_becomeNearestHalves_21 : decode cX1_becomeNearestHalves 21 = .ok (.lload_n 2, 1) := by decide +kernel
theorem dX1_becomeNearestHalves_22 : decode cX1_becomeNearestHalves 22 = .ok (.invokestatic 42, 3) := by decide +kernel
theorem dX1_becomeNearestHalves_25 : decode cX1_becomeNearestHalves 25 = .ok (.aload_n 1, 1) := by decide +kernel
theorem dX1_becomeNearestHalves_26 : decode cX1_becomeNearestHalves 26 = .ok (.getfield 21, 3) := by decide +kernel
theorem dX1_becomeNearestHalves_29 : decode cX1_becomeNearestHalves 29 = .ok (.lload_n 2, 1) := by decide +kernel
theorem dX1_becomeNearestHalves_30 : decode cX1_becomeNearestHalves 30 = .ok (.invokestatic 42, 3) := by decide +kernel
theorem dX1_becomeNearestHalves_33 : decode cX1_becomeNearestHalves 33 = .ok (.invokevirtual 24, 3) := by decide +kernel
theorem dX1_becomeNearestHalves_36 : decode cX1_becomeNearestHalves 36 = .ok (.return_, 1) := by decide +kernel
set_option maxRecDepth 20000 in
theorem ggX1_nearestWhole_J9_floorDiv_f86c9 : GoodIn wsX1_nearestWhole wsJ9_floorDiv_f86c9 := goodIn_r _ [5] (by decide +kernel) (by decide +kernel)
set_option maxRecDepth 20000 in
theorem gX1_nearestWhole_J9_floorDiv_f86c9 : GoodIn wsX1_nearestWhole (va_wsS RX1 45 yJ9_floorDiv_f86c9 wsJ9_floorDiv_f86c9) := goodIn_app (goodIn_of _ (by decide +kernel)) ggX1_nearestWhole_J9_floorDiv_f86c9
theorem dX1_nearestWhole_0 : decode cX1_nearestWhole 0 = .ok (.lload_n 2, 1) := by decide +kernel
theorem dX1_nearestWhole_1 : decode cX1_nearestWhole 1 = .ok (.lconst 0, 1) := by decide +kernel
theorem dX1_nearestWhole_2 : decode cX1_nearestWhole 2 = .ok (.lcmp, 1) := by decide +kernel
theorem dX1_nearestWhole_3 : decode cX1_nearestWhole 3 = .ok (.ifCond .le 21, 3) := by decide +kernel
theorem dX1_nearestWhole_6 : decode cX1_nearestWhole 6 = .ok (.ldc2_w 28, 3) := by decide +kernel
theorem dX1_nearestWhole_9 : decode cX1_nearestWhole 9 = .ok (.lload_n 0, 1) := by decide +kernel
theorem dX1_nearestWhole_10 : decode cX1_nearestWhole 10 = .ok (.lload_n 2, 1) := by decide +kernel
theorem dX1_nearestWhole_11 : decode cX1_nearestWhole 11 = .ok (.ladd, 1) := by decide +kernel
theorem dX1_nearestWhole_12 : decode cX1_nearestWhole 12 = .ok (.ldc2_w 28, 3) := by decide +kernel
theorem dX1_nearestWhole_15 : decode cX1_nearestWhole 15 = .ok (.lload_n 2, 1) := by decide +kernel
theorem dX1_nearestWhole_16 : decode cX1_nearestWhole 16 = .ok (.lmul, 1) := by decide +kernel
theorem dX1_nearestWhole_17 : decode cX1_nearestWhole 17 = .ok (.invokestatic 45, 3) := by decide +kernel
theorem dX1_nearestWhole_20 : decode cX1_nearestWhole 20 = .ok (.lmul, 1) := by decide +kernel
theorem dX1_nearestWhole_21 : decode cX1_nearestWhole 21 = .ok (.goto 4, 3) := by decide +kernel
theorem dX1_nearestWhole_24 : decode cX1_nearestWhole 24 = .ok (.lconst 0, 1) := by decide +kernel
theorem dX1_nearestWhole_25 : decode cX1_nearestWhole 25 = .ok (.lreturn, 1) := by decide +kernel
set_option maxRecDepth 20000 in
theorem ggX1_nearestHalf_J9_floorDiv_f86c9 : GoodIn wsX1_nearestHalf wsJ9_floorDiv_f86c9 := goodIn_r _ [5] (by decide +kernel) (by decide +kernel)
set_option maxRecDepth 20000 in
theorem gX1_nearestHalf_J9_floorDiv_f86c9 : GoodIn wsX1_nearestHalf (va_wsS RX1 45 yJ9_floorDiv_f86c9 wsJ9_floorDiv_f86c9) := goodIn_app (goodIn_of _ (by decide +kernel)) ggX1_nearestHalf_J9_floorDiv_f86c9
theorem dX1_nearestHalf_0 : decode cX1_nearestHalf 0 = .ok (.lload_n 2, 1) := by decide +kernel
theorem dX1_nearestHalf_1 : decode cX1_nearestHalf 1 = .ok (.lconst 0, 1) := by decide +kernel
theorem dX1_nearestHalf_2 : decode cX1_nearestHalf 2 = .ok (.lcmp, 1) := by decide +kernel
theorem dX1_nearestHalf_3 : decode cX1_nearestHalf 3 = .ok (.ifCond .le 21, 3) := by decide +kernel
theorem dX1_nearestHalf_6 : decode cX1_nearestHalf 6 = .ok (.ldc2_w 28, 3) := by decide +kernel
theorem dX1_nearestHalf_9 : decode cX1_nearestHalf 9 = .ok (.lload_n 0, 1) := by decide +kernel
theorem dX1_nearestHalf_10 : decode cX1_nearestHalf 10 = .ok (.ldc2_w 28, 3) := by decide +kernel
theorem dX1_nearestHalf_13 : decode cX1_nearestHalf 13 = .ok (.lload_n 2, 1) := by decide +kernel
theorem dX1_nearestHalf_14 : decode cX1_nearestHalf 14 = .ok (.lmul, 1) := by decide +kernel
theorem dX1_nearestHalf_15 : decode cX1_nearestHalf 15 = .ok (.invokestatic 45, 3) := by decide +kernel
theorem dX1_nearestHalf_18 : decode cX1_nearestHalf 18 = .ok (.lmul, 1) := by decide +kernel
theorem dX1_nearestHalf_19 : decode cX1_nearestHalf 19 = .ok (.lconst 1, 1) := by decide +kernel
theorem dX1_nearestHalf_20 : decode cX1_nearestHalf 20 = .ok (.ladd, 1) := by decide +kernel
theorem dX1_nearestHalf_21 : decode cX1_nearestHalf 21 = .ok (.goto 4, 3) := by decide +kernel
theorem dX1_nearestHalf_24 : decode cX1_nearestHalf 24 = .ok (.lconst 0, 1) := by decide +kernel
theorem dX1_nearestHalf_25 : decode cX1_nearestHalf 25 = .ok (.lreturn, 1) := by decide +kernel
set_option maxRecDepth 20000 in
theorem ggX1_offFrom_X1_square : GoodIn wsX1_offFrom wsX1_square := goodIn_r _ [8] (by decide +kernel) (by decide +kernel)
set_option maxRecDepth 20000 in
theorem gX1_offFrom_X1_square : GoodIn wsX1_offFrom (va_wsS RX1 50 yX1_square wsX1_square) := goodIn_app (goodIn_of _ (by decide +kernel)) ggX1_offFrom_X1_square
theorem dX1_offFrom_0 : decode cX1_offFrom 0 = .ok (.aload_n 1, 1) := by decide +kernel
theorem dX1_offFrom_1 : decode cX1_offFrom 1 = .ok (.getfield 9, 3) := by decide +kernel
theorem dX1_offFrom_4 : decode cX1_offFrom 4 = .ok (.lload_n 2, 1) := by decide +kernel
theorem dX1_offFrom_5 : decode cX1_offFrom 5 = .ok (.aload_n 0, 1) := by decide +kernel
theorem dX1_offFrom_6 : decode cX1_offFrom 6 = .ok (.getfield 9, 3) := by decide +kernel
theorem dX1_offFrom_9 : decode cX1_offFrom 9 = .ok (.lmul, 1) := by decide +kernel
theorem dX1_offFrom_10 : decode cX1_offFrom 10 = .ok (.lsub, 1) := by decide +kernel
theorem dX1_offFrom_11 : decode cX1_offFrom 11 = .ok (.invokestatic 50, 3) := by decide +kernel
theorem dX1_offFrom_14 : decode cX1_offFrom 14 = .ok (.aload_n 1, 1) := by decide +kernel
theorem dX1_offFrom_15 : decode cX1_offFrom 15 = .ok (.getfield 15, 3) := by decide +kernel
theorem dX1_offFrom_18 : decode cX1_offFrom 18 = .ok (.lload_n 2, 1) := by decide +kernel
theorem dX1_offFrom_19 : decode cX1_offFrom 19 = .ok (.aload_n 0, 1) := by decide +kernel
theorem dX1_offFrom_20 : decode cX1_offFrom 20 = .ok (.getfield 15, 3) := by decide +kernel
theorem dX1_offFrom_23 : decode cX1_offFrom 23 = .ok (.lmul, 1) := by decide +kernel
theorem dX1_offFrom_24 : decode cX1_offFrom 24 = .ok (.lsub, 1) := by decide +kernel
theorem dX1_offFrom_25 : decode cX1_offFrom 25 = .ok (.invokestatic 50, 3) := by decide +kernel
theorem dX1_offFrom_28 : decode cX1_offFrom 28 = .ok (.ladd, 1) := by decide +kernel
theorem dX1_offFrom_29 : decode cX1_offFrom 29 = .ok (.aload_n 1, 1) := by decide +kernel
theorem dX1_offFrom_30 : decode cX1_offFrom 30 = .ok (.getfield 18, 3) := by decide +kernel
theorem dX1_offFrom_33 : decode cX1_offFrom 33 = .ok (.lload_n 2, 1) := by decide +kernel
theorem dX1_offFrom_34 : decode cX1_offFrom 34 = .ok (.aload_n 0, 1) := by decide +kernel
theorem dX1_offFrom_35 : decode cX1_offFrom 35 = .ok (.getfield 18, 3) := by decide +kernel
theorem dX1_offFrom_38 : decode cX1_offFrom 38 = .ok (.lmul, 1) := by decide +kernel
theorem dX1_offFrom_39 : decode cX1_offFrom 39 = .ok (.lsub, 1) := by decide +kernel
theorem dX1_offFrom_40 : decode cX1_offFrom 40 = .ok (.invokestatic 50, 3) := by decide +kernel
theorem dX1_offFrom_43 : decode cX1_offFrom 43 = .ok (.ladd, 1) := by decide +kernel
theorem dX1_offFrom_44 : decode cX1_offFrom 44 = .ok (.aload_n 1, 1) := by decide +kernel
theorem dX1_offFrom_45 : decode cX1_offFrom 45 = .ok (.getfield 21, 3) := by decide +kernel
theorem dX1_offFrom_48 : decode cX1_offFrom 48 = .ok (.lload_n 2, 1) := by decide +kernel
theorem dX1_offFrom_49 : decode cX1_offFrom 49 = .ok (.aload_n 0, 1) := by decide +kernel
theorem dX1_offFrom_50 : decode cX1_offFrom 50 = .ok (.getfield 21, 3) := by decide +kernel
theorem dX1_offFrom_53 : decode cX1_offFrom 53 = .ok (.lmul, 1) := by decide +kernel
theorem dX1_offFrom_54 : decode cX1_offFrom 54 = .ok (.lsub, 1) := by decide +kernel
theorem dX1_offFrom_55 : decode cX1_offFrom 55 = .ok (.invokestatic 50, 3) := by decide +kernel
theorem dX1_offFrom_58 : decode cX1_offFrom 58 = .ok (.ladd, 1) := by decide +kernel
theorem dX1_offFrom_59 : decode cX1_offFrom 59 = .ok (.lreturn, 1) := by decide +kernel
theorem dX1_square_0 : decode cX1_square 0 = .ok (.lload_n 0, 1) := by decide +kernel
theorem dX1_square_1 : decode cX1_square 1 = .ok (.lload_n 0, 1) := by decide +kernel
theorem dX1_square_2 : decode cX1_square 2 = .ok (.lmul, 1) := by decide +kernel
theorem dX1_square_3 : decode cX1_square 3 = .ok (.lreturn, 1) := by decide +kernel
theorem dX1_norm_0 : decode cX1_norm 0 = .ok (.aload_n 0, 1) := by decide +kernel
theorem dX1_norm_1 : decode cX1_norm 1 = .ok (.getfield 9, 3) := by decide +kernel
theorem dX1_norm_4 : decode cX1_norm 4 = .ok (.aload_n 0, 1) := by decide +kernel
theorem dX1_norm_5 : decode cX1_norm 5 = .ok (.getfield 9, 3) := by decide +kernel
theorem dX1_norm_8 : decode cX1_norm 8 = .ok (.lmul, 1) := by decide +kernel
theorem dX1_norm_9 : decode cX1_norm 9 = .ok (.aload_n 0, 1) := by decide +kernel
theorem dX1_norm_10 : decode cX1_norm 10 = .ok (.getfield 15, 3) := by decide +kernel
theorem dX1_norm_13 : decode cX1_norm 13 = .ok (.aload_n 0, 1) := by decide +kernel
theorem dX1_norm_14 : decode cX1_norm 14 = .ok (.getfield 15, 3) := by decide +kernel
theorem dX1_norm_17 : decode cX1_norm 17 = .ok (.lmul, 1) := by decide +kernel
theorem dX1_norm_18 : decode cX1_norm 18 = .ok (.ladd, 1) := by decide +kernel
theorem dX1_norm_19 : decode cX1_norm 19 = .ok (.aload_n 0, 1) := by decide +kernel
theorem dX1_norm_20 : decode cX1_norm 20 = .ok (.getfield 18, 3) := by decide +kernel
theorem dX1_norm_23 : decode cX1_norm 23 = .ok (.aload_n 0, 1) := by decide +kernel
theorem dX1_norm_24 : decode cX1_norm 24 = .ok (.getfield 18, 3) := by decide +kernel
theorem dX1_norm_27 : decode cX1_norm 27 = .ok (.lmul, 1) := by decide +kernel
theorem dX1_norm_28 : decode cX1_norm 28 = .ok (.ladd, 1) := by decide +kernel
theorem dX1_norm_29 : decode cX1_norm 29 = .ok (.aload_n 0, 1) := by decide +kernel
theorem dX1_norm_30 : decode cX1_norm 30 = .ok (.getfield 21, 3) := by decide +kernel
theorem dX1_norm_33 : decode cX1_norm 33 = .ok (.aload_n 0, 1) := by decide +kernel
theorem dX1_norm_34 : decode cX1_norm 34 = .ok (.getfield 21, 3) := by decide +kernel
theorem dX1_norm_37 : decode cX1_norm 37 = .ok (.lmul, 1) := by decide +kernel
theorem dX1_norm_38 : decode cX1_norm 38 = .ok (.ladd, 1) := by decide +kernel
theorem dX1_norm_39 : decode cX1_norm 39 = .ok (.ldc2_w 54, 3) := by decide +kernel
theorem dX1_norm_42 : decode cX1_norm 42 = .ok (.ldiv, 1) := by decide +kernel
theorem dX1_norm_43 : decode cX1_norm 43 = .ok (.lreturn, 1) := by decide +kernel
theorem dX1_isZero_0 : decode cX1_isZero 0 = .ok (.aload_n 0, 1) := by decide +kernel
theorem dX1_isZero_1 : decode cX1_isZero 1 = .ok (.getfield 9, 3) := by decide +kernel
theorem dX1_isZero_4 : decode cX1_isZero 4 = .ok (.lconst 0, 1) := by decide +kernel
theorem dX1_isZero_5 : decode cX1_isZero 5 = .ok (.lcmp, 1) := by decide +kernel
theorem dX1_isZero_6 : decode cX1_isZero 6 = .ok (.ifCond .ne 34, 3) := by decide +kernel
theorem dX1_isZero_9 : decode cX1_isZero 9 = .ok (.aload_n 0, 1) := by decide +kernel
theorem dX1_isZero_10 : decode cX1_isZero 10 = .ok (.getfield 15, 3) := by decide +kernel
theorem dX1_isZero_13 : decode cX1_isZero 13 = .ok (.lconst 0, 1) := by decide +kernel
theorem dX1_isZero_14 : decode cX1_isZero 14 = .ok (.lcmp, 1) := by decide +kernel
theorem dX1_isZero_15 : decode cX1_isZero 15 = .ok (.ifCond .ne 25, 3) := by decide +kernel
theorem dX1_isZero_18 : decode cX1_isZero 18 = .ok (.aload_n 0, 1) := by decide +kernel
theorem dX1_isZero_19 : decode cX1_isZero 19 = .ok (.getfield 18, 3) := by decide +kernel
theorem dX1_isZero_22 : decode cX1_isZero 22 = .ok (.lconst 0, 1) := by decide +kernel
theorem dX1_isZero_23 : decode cX1_isZero 23 = .ok (.lcmp, 1) := by decide +kernel
theorem dX1_isZero_24 : decode cX1_isZero 24 = .ok (.ifCond .ne 16, 3) := by decide +kernel
theorem dX1_isZero_27 : decode cX1_isZero 27 = .ok (.aload_n 0, 1) := by decide +kernel
theorem dX1_isZero_28 : decode cX1_isZero 28 = .ok (.getfield 21, 3) := by decide +kernel
theorem dX1_isZero_31 : decode cX1_isZero 31 = .ok (.lconst 0, 1) := by decide +kernel
theorem dX1_isZero_32 : decode cX1_isZero 32 = .ok (.lcmp, 1) := by decide +kernel
theorem dX1_isZero_33 : decode cX1_isZero 33 = .ok (.ifCond .ne 7, 3) := by decide +kernel
theorem dX1_isZero_36 : decode cX1_isZero 36 = .ok (.iconst 1, 1) := by decide +kernel
theorem dX1_isZero_37 : decode cX1_isZero 37 = .ok (.goto 4, 3) := by decide +kernel
theorem dX1_isZero_40 : decode cX1_isZero 40 = .ok (.iconst 0, 1) := by decide +kernel
theorem dX1_isZero_41 : decode cX1_isZero 41 = .ok (.ireturn, 1) := by decide +kernel
theorem dX1_isSame_0 : decode cX1_isSame 0 = .ok (.aload_n 0, 1) := by decide +kernel
theorem dX1_isSame_1 : decode cX1_isSame 1 = .ok (.getfield 9, 3) := by decide +kernel
theorem dX1_isSame_4 : decode cX1_isSame 4 = .ok (.aload_n 1, 1) := by decide +kernel
theorem dX1_isSame_5 : decode cX1_isSame 5 = .ok (.getfield 9, 3) := by decide +kernel
theorem dX1_isSame_8 : decode cX1_isSame 8 = .ok (.lcmp, 1) := by decide +kernel
theorem dX1_isSame_9 : decode cX1_isSame 9 = .ok (.ifCond .ne 43, 3) := by decide +kernel
theorem dX1_isSame_12 : decode cX1_isSame 12 = .ok (.aload_n 0, 1) := by decide +kernel
theorem dX1_isSame_13 : decode cX1_isSame 13 = .ok (.getfield 15, 3) := by decide +kernel
theorem dX1_isSame_16 : decode cX1_isSame 16 = .ok (.aload_n 1, 1) := by decide +kernel
theorem dX1_isSame_17 : decode cX1_isSame 17 = .ok (.getfield 15, 3) := by decide +kernel
theorem dX1_isSame_20 : decode cX1_isSame 20 = .ok (.lcmp, 1) := by decide +kernel
theorem dX1_isSame_21 : decode cX1_isSame 21 = .ok (.ifCond .ne 31, 3) := by decide +kernel
theorem dX1_isSame_24 : decode cX1_isSame 24 = .ok (.aload_n 0, 1) := by decide +kernel
theorem dX1_isSame_25 : decode cX1_isSame 25 = .ok (.getfield 18, 3) := by decide +kernel
theorem dX1_isSame_28 : decode cX1_isSame 28 = .ok (.aload_n 1, 1) := by decide +kernel
theorem dX1_isSame_29 : decode cX1_isSame 29 = .ok (.getfield 18, 3) := by decide +kernel
theorem dX1_isSame_32 : decode cX1_isSame 32 = .ok (.lcmp, 1) := by decide +kernel
theorem dX1_isSame_33 : decode cX1_isSame 33 = .ok (.ifCond .ne 19, 3) := by decide +kernel
theorem dX1_isSame_36 : decode cX1_isSame 36 = .ok (.aload_n 0, 1) := by decide +kernel
theorem dX1_isSame_37 : decode cX1_isSame 37 = .ok (.getfield 21, 3) := by decide +kernel
theorem dX1_isSame_40 : decode cX1_isSame 40 = .ok (.aload_n 1, 1) := by decide +kernel
theorem dX1_isSame_41 : decode cX1_isSame 41 = .ok (.getfield 21, 3) := by decide +kernel
theorem dX1_isSame_44 : decode cX1_isSame 44 = .ok (.lcmp, 1) := by decide +kernel
theorem dX1_isSame_45 : decode cX1_isSame 45 = .ok (.ifCond .ne 7, 3) := by decide +kernel
theorem dX1_isSame_48 : decode cX1_isSame 48 = .ok (.iconst 1, 1) := by decide +kernel
theorem dX1_isSame_49 : decode cX1_isSame 49 = .ok (.goto 4, 3) := by decide +kernel
theorem dX1_isSame_52 : decode cX1_isSame 52 = .ok (.iconst 0, 1) := by decide +kernel
theorem dX1_isSame_53 : decode cX1_isSame 53 = .ok (.ireturn, 1) := by decide +kernel
theorem dX1_isGreaterThan_0 : decode cX1_isGreaterThan 0 = .ok (.aload_n 0, 1) := by decide +kernel
theorem dX1_isGreaterThan_1 : decode cX1_isGreaterThan 1 = .ok (.getfield 9, 3) := by decide +kernel
theorem dX1_isGreaterThan_4 : decode cX1_isGreaterThan 4 = .ok (.aload_n 1, 1) := by decide +kernel
theorem dX1_isGreaterThan_5 : decode cX1_isGreaterThan 5 = .ok (.getfield 9, 3) := by decide +kernel
theorem dX1_isGreaterThan_8 : decode cX1_isGreaterThan 8 = .ok (.lcmp, 1) := by decide +kernel
theorem dX1_isGreaterThan_9 : decode cX1_isGreaterThan 9 = .ok (.ifCond .eq 21, 3) := by decide +kernel
theorem dX1_isGreaterThan_12 : decode cX1_isGreaterThan 12 = .ok (.aload_n 0, 1) := by decide +kernel
theorem dX1_isGreaterThan_13 : decode cX1_isGreaterThan 13 = .ok (.getfield 9, 3) := by decide +kernel
theorem dX1_isGreaterThan_16 : decode cX1_isGreaterThan 16 = .ok (.aload_n 1, 1) := by decide +kernel
theorem dX1_isGreaterThan_17 : decode cX1_isGreaterThan 17 = .ok (.getfield 9, 3) := by decide +kernel
theorem dX1_isGreaterThan_20 : decode cX1_isGreaterThan 20 = .ok (.lcmp, 1) := by decide +kernel
theorem dX1_isGreaterThan_21 : decode cX1_isGreaterThan 21 = .ok (.ifCond .le 7, 3) := by decide +kernel
theorem dX1_isGreaterThan_24 : decode cX1_isGreaterThan 24 = .ok (.iconst 1, 1) := by decide +kernel
theorem dX1_isGreaterThan_25 : decode cX1_isGreaterThan 25 = .ok (.goto 4, 3) := by decide +kernel
theorem dX1_isGreaterThan_28 : decode cX1_isGreaterThan 28 = .ok (.iconst 0, 1) := by decide +kernel
theorem dX1_isGreaterThan_29 : decode cX1_isGreaterThan 29 = .ok (.ireturn, 1) := by decide +kernel
theorem dX1_isGreaterThan_30 : decode cX1_isGreaterThan 30 = .ok (.aload_n 0, 1) := by decide +kernel
theorem dX1_isGreaterThan_31 : decode cX1_isGreaterThan 31 = .ok (.getfield 15, 3) := by decide +kernel
theorem dX1_isGreaterThan_34 : decode cX1_isGreaterThan 34 = .ok (.aload_n 1, 1) := by decide +kernel
theorem dX1_isGreaterThan_35 : decode cX1_isGreaterThan 35 = .ok (.getfield 15, 3) := by decide +kernel
theorem dX1_isGreaterThan_38 : decode cX1_isGreaterThan 38 = .ok (.lcmp, 1) := by decide +kernel
theorem dX1_isGreaterThan_39 : decode cX1_isGreaterThan 39 = .ok (.ifCond .eq 21, 3) := by decide +kernel
theorem dX1_isGreaterThan_42 : decode cX1_isGreaterThan 42 = .ok (.aload_n 0, 1) := by decide +kernel
theorem dX1_isGreaterThan_43 : decode cX1_isGreaterThan 43 = .ok (.getfield 15, 3) := by decide +kernel
theorem dX1_isGreaterThan_46 : decode cX1_isGreaterThan 46 = .ok (.aload_n 1, 1) := by decide +kernel
theorem dX1_isGreaterThan_47 : decode cX1_isGreaterThan 47 = .ok (.getfield 15, 3) := by decide +kernel
theorem dX1_isGreaterThan_50 : decode cX1_isGreaterThan 50 = .ok (.lcmp, 1) := by decide +kernel
theorem dX1_isGreaterThan_51 : decode cX1_isGreaterThan 51 = .ok (.ifCond .le 7, 3) := by decide +kernel
theorem dX1_isGreaterThan_54 : decode cX1_isGreaterThan 54 = .ok (.iconst 1, 1) := by decide +kernel
theorem dX1_isGreaterThan_55 : decode cX1_isGreaterThan 55 = .ok (.goto 4, 3) := by decide +kernel
theorem dX1_isGreaterThan_58 : decode cX1_isGreaterThan 58 = .ok (.iconst 0, 1) := by decide +kernel
theorem dX1_isGreaterThan_59 : decode cX1_isGreaterThan 59 = .ok (.ireturn, 1) := by decide +kernel
theorem dX1_isGreaterThan_60 : decode cX1_isGreaterThan 60 = .ok (.aload_n 0, 1) := by decide +kernel
theorem dX1_isGreaterThan_61 : decode cX1_isGreaterThan 61 = .ok (.getfield 18, 3) := by decide +kernel
theorem dX1_isGreaterThan_64 : decode cX1_isGreaterThan 64 = .ok (.aload_n 1, 1) := by decide +kernel
theorem dX1_isGreaterThan_65 : decode cX1_isGreaterThan 65 = .ok (.getfield 18, 3) := by decide +kernel
theorem dX1_isGreaterThan_68 : decode cX1_isGreaterThan 68 = .ok (.lcmp, 1) := by decide +kernel
theorem dX1_isGreaterThan_69 : decode cX1_isGreaterThan 69 = .ok (.ifCond .eq 21, 3) := by decide +kernel
theorem dX1_isGreaterThan_72 : decode cX1_isGreaterThan 72 = .ok (.aload_n 0, 1) := by decide +kernel
theorem dX1_isGreaterThan_73 : decode cX1_isGreaterThan 73 = .ok (.getfield 18, 3) := by decide +kernel
theorem dX1_isGreaterThan_76 : decode cX1_isGreaterThan 76 = .ok (.aload_n 1, 1) := by decide +kernel
theorem dX1_isGreaterThan_77 : decode cX1_isGreaterThan 77 = .ok (.getfield 18, 3) := by decide +kernel
theorem dX1_isGreaterThan_80 : decode cX1_isGreaterThan 80 = .ok (.lcmp, 1) := by decide +kernel
theorem dX1_isGreaterThan_81 : decode cX1_isGreaterThan 81 = .ok (.ifCond .le 7, 3) := by decide +kernel
theorem dX1_isGreaterThan_84 : decode cX1_isGreaterThan 84 = .ok (.iconst 1, 1) := by decide +kernel
theorem dX1_isGreaterThan_85 : decode cX1_isGreaterThan 85 = .ok (.goto 4, 3) := by decide +kernel
theorem dX1_isGreaterThan_88 : decode cX1_isGreaterThan 88 = .ok (.iconst 0, 1) := by decide +kernel
theorem dX1_isGreaterThan_89 : decode cX1_isGreaterThan 89 = .ok (.ireturn, 1) := by decide +kernel
theorem dX1_isGreaterThan_90 : decode cX1_isGreaterThan 90 = .ok (.aload_n 0, 1) := by decide +kernel
theorem dX1_isGreaterThan_91 : decode cX1_isGreaterThan 91 = .ok (.getfield 21, 3) := by decide +kernel
theorem dX1_isGreaterThan_94 : decode cX1_isGreaterThan 94 = .ok (.aload_n 1, 1) := by decide +kernel
theorem dX1_isGreaterThan_95 : decode cX1_isGreaterThan 95 = .ok (.getfield 21, 3) := by decide +kernel
theorem dX1_isGreaterThan_98 : decode cX1_isGreaterThan 98 = .ok (.lcmp, 1) := by decide +kernel
theorem dX1_isGreaterThan_99 : decode cX1_isGreaterThan 99 = .ok (.ifCond .le 7, 3) := by decide +kernel
theorem dX1_isGreaterThan_102 : decode cX1_isGreaterThan 102 = .ok (.iconst 1, 1) := by decide +kernel
theorem dX1_isGreaterThan_103 : decode cX1_isGreaterThan 103 = .ok (.goto 4, 3) := by decide +kernel
theorem dX1_isGreaterThan_106 : decode cX1_isGreaterThan 106 = .ok (.iconst 0, 1) := by decide +kernel
theorem dX1_isGreaterThan_107 : decode cX1_isGreaterThan 107 = .ok (.ireturn, 1) := by decide +kernel
theorem dX1_isAllEvenOrAllOdd_0 : decode cX1_isAllEvenOrAllOdd 0 = .ok (.aload_n 0, 1) := by decide +kernel
theorem dX1_isAllEvenOrAllOdd_1 : decode cX1_isAllEvenOrAllOdd 1 = .ok (.getfield 9, 3) := by decide +kernel
theorem dX1_isAllEvenOrAllOdd_4 : decode cX1_isAllEvenOrAllOdd 4 = .ok (.aload_n 0, 1) := by decide +kernel
theorem dX1_isAllEvenOrAllOdd_5 : decode cX1_isAllEvenOrAllOdd 5 = .ok (.getfield 15, 3) := by decide +kernel
theorem dX1_isAllEvenOrAllOdd_8 : decode cX1_isAllEvenOrAllOdd 8 = .ok (.lxor, 1) := by decide +kernel
theorem dX1_isAllEvenOrAllOdd_9 : decode cX1_isAllEvenOrAllOdd 9 = .ok (.aload_n 0, 1) := by decide +kernel
theorem dX1_isAllEvenOrAllOdd_10 : decode cX1_isAllEvenOrAllOdd 10 = .ok (.getfield 9, 3) := by decide +kernel
theorem dX1_isAllEvenOrAllOdd_13 : decode cX1_isAllEvenOrAllOdd 13 = .ok (.aload_n 0, 1) := by decide +kernel
theorem dX1_isAllEvenOrAllOdd_14 : decode cX1_isAllEvenOrAllOdd 14 = .ok (.getfield 18, 3) := by decide +kernel
theorem dX1_isAllEvenOrAllOdd_17 : decode cX1_isAllEvenOrAllOdd 17 = .ok (.lxor, 1) := by decide +kernel
theorem dX1_isAllEvenOrAllOdd_18 : decode cX1_isAllEvenOrAllOdd 18 = .ok (.lor, 1) := by decide +kernel
theorem dX1_isAllEvenOrAllOdd_19 : decode cX1_isAllEvenOrAllOdd 19 = .ok (.aload_n 0, 1) := by decide +kernel
theorem dX1_isAllEvenOrAllOdd_20 : decode cX1_isAllEvenOrAllOdd 20 = .ok (.getfield 9, 3) := by decide +kernel
theorem dX1_isAllEvenOrAllOdd_23 : decode cX1_isAllEvenOrAllOdd 23 = .ok (.aload_n 0, 1) := by decide +kernel
theorem dX1_isAllEvenOrAllOdd_24 : decode cX1_isAllEvenOrAllOdd 24 = .ok (.getfield 21, 3) := by decide +kernel
theorem dX1_isAllEvenOrAllOdd_27 : decode cX1_isAllEvenOrAllOdd 27 = .ok (.lxor, 1) := by decide +kernel
theorem dX1_isAllEvenOrAllOdd_28 : decode cX1_isAllEvenOrAllOdd 28 = .ok (.lor, 1) := by decide +kernel
theorem dX1_isAllEvenOrAllOdd_29 : decode cX1_isAllEvenOrAllOdd 29 = .ok (.lconst 1, 1) := by decide +kernel
theorem dX1_isAllEvenOrAllOdd_30 : decode cX1_isAllEvenOrAllOdd 30 = .ok (.land, 1) := by decide +kernel
theorem dX1_isAllEvenOrAllOdd_31 : decode cX1_isAllEvenOrAllOdd 31 = .ok (.lconst 0, 1) := by decide +kernel
theorem dX1_isAllEvenOrAllOdd_32 : decode cX1_isAllEvenOrAllOdd 32 = .ok (.lcmp, 1) := by decide +kernel
theorem dX1_isAllEvenOrAllOdd_33 : decode cX1_isAllEvenOrAllOdd 33 = .ok (.ifCond .ne 7, 3) := by decide +kernel
theorem dX1_isAllEvenOrAllOdd_36 : decode cX1_isAllEvenOrAllOdd 36 = .ok (.iconst 1, 1) := by decide +kernel
theorem dX1_isAllEvenOrAllOdd_37 : decode cX1_isAllEvenOrAllOdd 37 = .ok (.goto 4, 3) := by decide +kernel
theorem dX1_isAllEvenOrAllOdd_40 : decode cX1_isAllEvenOrAllOdd 40 = .ok (.iconst 0, 1) := by decide +kernel
theorem dX1_isAllEvenOrAllOdd_41 : decode cX1_isAllEvenOrAllOdd 41 = .ok (.ireturn, 1) := by decide +kernel
set_option maxRecDepth 20000 in
theorem ggX1_isHigh_X1_isHighPart : GoodIn wsX1_isHigh wsX1_isHighPart := goodIn_r _ [8, 9, 10] (by decide +kernel) (by decide +kernel)
set_option maxRecDepth 20000 in
theorem gX1_isHigh_X1_isHighPart : GoodIn wsX1_isHigh (va_wsS RX1 56 yX1_isHighPart wsX1_isHighPart) := goodIn_app (goodIn_of _ (by decide +kernel)) ggX1_isHigh_X1_isHighPart
theorem dX1_isHigh_0 : decode cX1_isHigh 0 = .ok (.aload_n 0, 1) := by decide +kernel
theorem dX1_isHigh_1 : decode cX1_isHigh 1 = .ok (.getfield 9, 3) := by decide +kernel
theorem dX1_isHigh_4 : decode cX1_isHigh 4 = .ok (.invokestatic 56, 3) := by decide +kernel
theorem dX1_isHigh_7 : decode cX1_isHigh 7 = .ok (.ifCond .ne 33, 3) := by decide +kernel
theorem dX1_isHigh_10 : decode cX1_isHigh 10 = .ok (.aload_n 0, 1) := by decide +kernel
theorem dX1_isHigh_11 : decode cX1_isHigh 11 = .ok (.getfield 15, 3) := by decide +kernel
theorem dX1_isHigh_14 : decode cX1_isHigh 14 = .ok (.invokestatic 56, 3) := by decide +kernel
theorem dX1_isHigh_17 : decode cX1_isHigh 17 = .ok (.ifCond .ne 23, 3) := by decide +kernel
theorem dX1_isHigh_20 : decode cX1_isHigh 20 = .ok (.aload_n 0, 1) := by decide +kernel
theorem dX1_isHigh_21 : decode cX1_isHigh 21 = .ok (.getfield 18, 3) := by decide +kernel
theorem dX1_isHigh_24 : decode cX1_isHigh 24 = .ok (.invokestatic 56, 3) := by decide +kernel
theorem dX1_isHigh_27 : decode cX1_isHigh 27 = .ok (.ifCond .ne 13, 3) := by decide +kernel
theorem dX1_isHigh_30 : decode cX1_isHigh 30 = .ok (.aload_n 0, 1) := by decide +kernel
theorem dX1_isHigh_31 : decode cX1_isHigh 31 = .ok (.getfield 21, 3) := by decide +kernel
theorem dX1_isHigh_34 : decode cX1_isHigh 34 = .ok (.invokestatic 56, 3) := by decide +kernel
theorem dX1_isHigh_37 : decode cX1_isHigh 37 = .ok (.ifCond .eq 7, 3) := by decide +kernel
theorem dX1_isHigh_40 : decode cX1_isHigh 40 = .ok (.iconst 1, 1) := by decide +kernel
theorem dX1_isHigh_41 : decode cX1_isHigh 41 = .ok (.goto 4, 3) := by decide +kernel
theorem dX1_isHigh_44 : decode cX1_isHigh 44 = .ok (.iconst 0, 1) := by decide +kernel
theorem dX1_isHigh_45 : decode cX1_isHigh 45 = .ok (.ireturn, 1) := by decide +kernel
theorem dX1_isHighPart_0 : decode cX1_isHighPart 0 = .ok (.lload_n 0, 1) := by decide +kernel
theorem dX1_isHighPart_1 : decode cX1_isHighPart 1 = .ok (.ldc2_w 60, 3) := by decide +kernel
theorem dX1_isHighPart_4 : decode cX1_isHighPart 4 = .ok (.lcmp, 1) := by decide +kernel
theorem dX1_isHighPart_5 : decode cX1_isHighPart 5 = .ok (.ifCond .lt 11, 3) := by decide +kernel
theorem dX1_isHighPart_8 : decode cX1_isHighPart 8 = .ok (.lload_n 0, 1) := by decide +kernel
theorem dX1_isHighPart_9 : decode cX1_isHighPart 9 = .ok (.ldc2_w 62, 3) := by decide +kernel
theorem dX1_isHighPart_12 : decode cX1_isHighPart 12 = .ok (.lcmp, 1) := by decide +kernel
theorem dX1_isHighPart_13 : decode cX1_isHighPart 13 = .ok (.ifCond .le 7, 3) := by decide +kernel
theorem dX1_isHighPart_16 : decode cX1_isHighPart 16 = .ok (.iconst 1, 1) := by decide +kernel
theorem dX1_isHighPart_17 : decode cX1_isHighPart 17 = .ok (.goto 4, 3) := by decide +kernel
theorem dX1_isHighPart_20 : decode cX1_isHighPart 20 = .ok (.iconst 0, 1) := by decide +kernel
theorem dX1_isHighPart_21 : decode cX1_isHighPart 21 = .ok (.ireturn, 1) := by decide +kernel
set_option maxRecDepth 20000 in
theorem ggX1_isPrimitive_X1_commonOf : GoodIn wsX1_isPrimitive wsX1_commonOf := goodIn_r _ [9, 10, 11, 12, 13] (by decide +kernel) (by decide +kernel)
set_option maxRecDepth 20000 in
theorem gX1_isPrimitive_X1_commonOf : GoodIn wsX1_isPrimitive (va_wsS RX1 64 yX1_commonOf wsX1_commonOf) := goodIn_app (goodIn_of _ (by decide +kernel)) ggX1_isPrimitive_X1_commonOf
theorem dX1_isPrimitive_0 : decode cX1_isPrimitive 0 = .ok (.aload_n 0, 1) := by decide +kernel
theorem dX1_isPrimitive_1 : decode cX1_isPrimitive 1 = .ok (.getfield 9, 3) := by decide +kernel
theorem dX1_isPrimitive_4 : decode cX1_isPrimitive 4 = .ok (.aload_n 0, 1) := by decide +kernel
theorem dX1_isPrimitive_5 : decode cX1_isPrimitive 5 = .ok (.getfield 15, 3) := by decide +kernel
theorem dX1_isPrimitive_8 : decode cX1_isPrimitive 8 = .ok (.invokestatic 64, 3) := by decide +kernel
theorem dX1_isPrimitive_11 : decode cX1_isPrimitive 11 = .ok (.aload_n 0, 1) := by decide +kernel
theorem dX1_isPrimitive_12 : decode cX1_isPrimitive 12 = .ok (.getfield 18, 3) := by decide +kernel
theorem dX1_isPrimitive_15 : decode cX1_isPrimitive 15 = .ok (.aload_n 0, 1) := by decide +kernel
theorem dX1_isPrimitive_16 : decode cX1_isPrimitive 16 = .ok (.getfield 21, 3) := by decide +kernel
theorem dX1_isPrimitive_19 : decode cX1_isPrimitive 19 = .ok (.invokestatic 64, 3) := by decide +kernel
theorem dX1_isPrimitive_22 : decode cX1_isPrimitive 22 = .ok (.invokestatic 64, 3) := by decide +kernel
theorem dX1_isPrimitive_25 : decode cX1_isPrimitive 25 = .ok (.lstore_n 1, 1) := by decide +kernel
theorem dX1_isPrimitive_26 : decode cX1_isPrimitive 26 = .ok (.lload_n 1, 1) := by decide +kernel
theorem dX1_isPrimitive_27 : decode cX1_isPrimitive 27 = .ok (.ldc2_w 28, 3) := by decide +kernel
theorem dX1_isPrimitive_30 : decode cX1_isPrimitive 30 = .ok (.lcmp, 1) := by decide +kernel
theorem dX1_isPrimitive_31 : decode cX1_isPrimitive 31 = .ok (.ifCond .eq 15, 3) := by decide +kernel
theorem dX1_isPrimitive_34 : decode cX1_isPrimitive 34 = .ok (.lload_n 1, 1) := by decide +kernel
theorem dX1_isPrimitive_35 : decode cX1_isPrimitive 35 = .ok (.lconst 1, 1) := by decide +kernel
theorem dX1_isPrimitive_36 : decode cX1_isPrimitive 36 = .ok (.lcmp, 1) := by decide +kernel
theorem dX1_isPrimitive_37 : decode cX1_isPrimitive 37 = .ok (.ifCond .ne 7, 3) := by decide +kernel
theorem dX1_isPrimitive_40 : decode cX1_isPrimitive 40 = .ok (.iconst 1, 1) := by decide +kernel
theorem dX1_isPrimitive_41 : decode cX1_isPrimitive 41 = .ok (.goto 4, 3) := by decide +kernel
theorem dX1_isPrimitive_44 : decode cX1_isPrimitive 44 = .ok (.iconst 0, 1) := by decide +kernel
theorem dX1_isPrimitive_45 : decode cX1_isPrimitive 45 = .ok (.ireturn, 1) := by decide +kernel
theorem dX1_isPrimitive_46 : decode cX1_isPrimitive 46 = .ok (.aload_n 0, 1) := by decide +kernel
theorem dX1_isPrimitive_47 : decode cX1_isPrimitive 47 = .ok (.getfield 9, 3) := by decide +kernel
theorem dX1_isPrimitive_50 : decode cX1_isPrimitive 50 = .ok (.aload_n 0, 1) := by decide +kernel
theorem dX1_isPrimitive_51 : decode cX1_isPrimitive 51 = .ok (.getfield 15, 3) := by decide +kernel
theorem dX1_isPrimitive_54 : decode cX1_isPrimitive 54 = .ok (.land, 1) := by decide +kernel
theorem dX1_isPrimitive_55 : decode cX1_isPrimitive 55 = .ok (.aload_n 0, 1) := by decide +kernel
theorem dX1_isPrimitive_56 : decode cX1_isPrimitive 56 = .ok (.getfield 18, 3) := by decide +kernel
theorem dX1_isPrimitive_59 : decode cX1_isPrimitive 59 = .ok (.land, 1) := by decide +kernel
theorem dX1_isPrimitive_60 : decode cX1_isPrimitive 60 = .ok (.aload_n 0, 1) := by decide +kernel
theorem dX1_isPrimitive_61 : decode cX1_isPrimitive 61 = .ok (.getfield 21, 3) := by decide +kernel
theorem dX1_isPrimitive_64 : decode cX1_isPrimitive 64 = .ok (.land, 1) := by decide +kernel
theorem dX1_isPrimitive_65 : decode cX1_isPrimitive 65 = .ok (.ldc2_w 28, 3) := by decide +kernel
theorem dX1_isPrimitive_68 : decode cX1_isPrimitive 68 = .ok (.land, 1) := by decide +kernel
theorem dX1_isPrimitive_69 : decode cX1_isPrimitive 69 = .ok (.lconst 0, 1) := by decide +kernel
theorem dX1_isPrimitive_70 : decode cX1_isPrimitive 70 = .ok (.lcmp, 1) := by decide +kernel
theorem dX1_isPrimitive_71 : decode cX1_isPrimitive 71 = .ok (.ifCond .ne 7, 3) := by decide +kernel
theorem dX1_isPrimitive_74 : decode cX1_isPrimitive 74 = .ok (.iconst 1, 1) := by decide +kernel
theorem dX1_isPrimitive_75 : decode cX1_isPrimitive 75 = .ok (.goto 4, 3) := by decide +kernel
theorem dX1_isPrimitive_78 : decode cX1_isPrimitive 78 = .ok (.iconst 0, 1) := by decide +kernel
theorem dX1_isPrimitive_79 : decode cX1_isPrimitive 79 = .ok (.ireturn, 1) := by decide +kernel
theorem dX1_commonOf_0 : decode cX1_commonOf 0 = .ok (.lload_n 0, 1) := by decide +kernel
theorem dX1_commonOf_1 : decode cX1_commonOf 1 = .ok (.invokestatic 67, 3) := by decide +kernel
theorem dX1_commonOf_4 : decode cX1_commonOf 4 = .ok (.lstore 4, 2) := by decide +kernel
theorem dX1_commonOf_6 : decode cX1_commonOf 6 = .ok (.lload_n 2, 1) := by decide +kernel
theorem dX1_commonOf_7 : decode cX1_commonOf 7 = .ok (.invokestatic 67, 3) := by decide +kernel
theorem dX1_commonOf_10 : decode cX1_commonOf 10 = .ok (.lstore 6, 2) := by decide +kernel
theorem dX1_commonOf_12 : decode cX1_commonOf 12 = .ok (.iconst 0, 1) := by decide +kernel
theorem dX1_commonOf_13 : decode cX1_commonOf 13 = .ok (.istore 8, 2) := by decide +kernel
theorem dX1_commonOf_15 : decode cX1_commonOf 15 = .ok (.iload 8, 2) := by decide +kernel
theorem dX1_commonOf_17 : decode cX1_commonOf 17 = .ok (.bipush 100, 2) := by decide +kernel
theorem dX1_commonOf_19 : decode cX1_commonOf 19 = .ok (.if_icmp .ge 31, 3) := by decide +kernel
theorem dX1_commonOf_22 : decode cX1_commonOf 22 = .ok (.lload 6, 2) := by decide +kernel
theorem dX1_commonOf_24 : decode cX1_commonOf 24 = .ok (.lconst 0, 1) := by decide +kernel
theorem dX1_commonOf_25 : decode cX1_commonOf 25 = .ok (.lcmp, 1) := by decide +kernel
theorem dX1_commonOf_26 : decode cX1_commonOf 26 = .ok (.ifCond .eq 24, 3) := by decide +kernel
theorem dX1_commonOf_29 : decode cX1_commonOf 29 = .ok (.lload 4, 2) := by decide +kernel
theorem dX1_commonOf_31 : decode cX1_commonOf 31 = .ok (.lload 6, 2) := by decide +kernel
theorem dX1_commonOf_33 : decode cX1_commonOf 33 = .ok (.lrem, 1) := by decide +kernel
theorem dX1_commonOf_34 : decode cX1_commonOf 34 = .ok (.lstore 9, 2) := by decide +kernel
theorem dX1_commonOf_36 : decode cX1_commonOf 36 = .ok (.lload 6, 2) := by decide +kernel
theorem dX1_commonOf_38 : decode cX1_commonOf 38 = .ok (.lstore 4, 2) := by decide +kernel
theorem dX1_commonOf_40 : decode cX1_commonOf 40 = .ok (.lload 9, 2) := by decide +kernel
theorem dX1_commonOf_42 : decode cX1_commonOf 42 = .ok (.lstore 6, 2) := by decide +kernel
theorem dX1_commonOf_44 : decode cX1_commonOf 44 = .ok (.iinc 8 1, 3) := by decide +kernel
theorem dX1_commonOf_47 : decode cX1_commonOf 47 = .ok (.goto (-32), 3) := by decide +kernel
theorem dX1_commonOf_50 : decode cX1_commonOf 50 = .ok (.lload 4, 2) := by decide +kernel
theorem dX1_commonOf_52 : decode cX1_commonOf 52 = .ok (.lreturn, 1) := by decide +kernel
theorem dX1_turnAt_0 : decode cX1_turnAt 0 = .ok (.iconst 3, 1) := by decide +kernel
theorem dX1_turnAt_1 : decode cX1_turnAt 1 = .ok (.iload_n 1, 1) := by decide +kernel
theorem dX1_turnAt_2 : decode cX1_turnAt 2 = .ok (.imul, 1) := by decide +kernel
theorem dX1_turnAt_3 : decode cX1_turnAt 3 = .ok (.iload_n 2, 1) := by decide +kernel
theorem dX1_turnAt_4 : decode cX1_turnAt 4 = .ok (.iadd, 1) := by decide +kernel
theorem dX1_turnAt_5 : decode cX1_turnAt 5 = .ok (.tableswitch 327 0 8 #[51, 95, 119, 143, 167, 211, 235, 259, 283], 51) := by decide +kernel
theorem dX1_turnAt_56 : decode cX1_turnAt 56 = .ok (.aload_n 0, 1) := by decide +kernel
theorem dX1_turnAt_57 : decode cX1_turnAt 57 = .ok (.getfield 9, 3) := by decide +kernel
theorem dX1_turnAt_60 : decode cX1_turnAt 60 = .ok (.aload_n 0, 1) := by decide +kernel
theorem dX1_turnAt_61 : decode cX1_turnAt 61 = .ok (.getfield 9, 3) := by decide +kernel
theorem dX1_turnAt_64 : decode cX1_turnAt 64 = .ok (.lmul, 1) := by decide +kernel
theorem dX1_turnAt_65 : decode cX1_turnAt 65 = .ok (.aload_n 0, 1) := by decide +kernel
theorem dX1_turnAt_66 : decode cX1_turnAt 66 = .ok (.getfield 15, 3) := by decide +kernel
theorem dX1_turnAt_69 : decode cX1_turnAt 69 = .ok (.aload_n 0, 1) := by decide +kernel
theorem dX1_turnAt_70 : decode cX1_turnAt 70 = .ok (.getfield 15, 3) := by decide +kernel
theorem dX1_turnAt_73 : decode cX1_turnAt 73 = .ok (.lmul, 1) := by decide +kernel
theorem dX1_turnAt_74 : decode cX1_turnAt 74 = .ok (.ladd, 1) := by decide +kernel
theorem dX1_turnAt_75 : decode cX1_turnAt 75 = .ok (.aload_n 0, 1) := by decide +kernel
theorem dX1_turnAt_76 : decode cX1_turnAt 76 = .ok (.getfield 18, 3) := by decide +kernel
theorem dX1_turnAt_79 : decode cX1_turnAt 79 = .ok (.aload_n 0, 1) := by decide +kernel
theorem dX1_turnAt_80 : decode cX1_turnAt 80 = .ok (.getfield 18, 3) := by decide +kernel
theorem dX1_turnAt_83 : decode cX1_turnAt 83 = .ok (.lmul, 1) := by decide +kernel
theorem dX1_turnAt_84 : decode cX1_turnAt 84 = .ok (.lsub, 1) := by decide +kernel
theorem dX1_turnAt_85 : decode cX1_turnAt 85 = .ok (.aload_n 0, 1) := by decide +kernel
theorem dX1_turnAt_86 : decode cX1_turnAt 86 = .ok (.getfield 21, 3) := by decide +kernel
theorem dX1_turnAt_89 : decode cX1_turnAt 89 = .ok (.aload_n 0, 1) := by decide +kernel
theorem dX1_turnAt_90 : decode cX1_turnAt 90 = .ok (.getfield 21, 3) := by decide +kernel
theorem dX1_turnAt_93 : decode cX1_turnAt 93 = .ok (.lmul, 1) := by decide +kernel
theorem dX1_turnAt_94 : decode cX1_turnAt 94 = .ok (.lsub, 1) := by decide +kernel
theorem dX1_turnAt_95 : decode cX1_turnAt 95 = .ok (.ldc2_w 54, 3) := by decide +kernel
theorem dX1_turnAt_98 : decode cX1_turnAt 98 = .ok (.ldiv, 1) := by decide +kernel
theorem dX1_turnAt_99 : decode cX1_turnAt 99 = .ok (.lreturn, 1) := by decide +kernel
theorem dX1_turnAt_100 : decode cX1_turnAt 100 = .ok (.aload_n 0, 1) := by decide +kernel
theorem dX1_turnAt_101 : decode cX1_turnAt 101 = .ok (.getfield 15, 3) := by decide +kernel
theorem dX1_turnAt_104 : decode cX1_turnAt 104 = .ok (.aload_n 0, 1) := by decide +kernel
theorem dX1_turnAt_105 : decode cX1_turnAt 105 = .ok (.getfield 18, 3) := by decide +kernel
theorem dX1_turnAt_108 : decode cX1_turnAt 108 = .ok (.lmul, 1) := by decide +kernel
theorem dX1_turnAt_109 : decode cX1_turnAt 109 = .ok (.aload_n 0, 1) := by decide +kernel
theorem dX1_turnAt_110 : decode cX1_turnAt 110 = .ok (.getfield 9, 3) := by decide +kernel
theorem dX1_turnAt_113 : decode cX1_turnAt 113 = .ok (.aload_n 0, 1) := by decide +kernel
theorem dX1_turnAt_114 : decode cX1_turnAt 114 = .ok (.getfield 21, 3) := by decide +kernel
theorem dX1_turnAt_117 : decode cX1_turnAt 117 = .ok (.lmul, 1) := by decide +kernel
theorem dX1_turnAt_118 : decode cX1_turnAt 118 = .ok (.lsub, 1) := by decide +kernel
theorem dX1_turnAt_119 : decode cX1_turnAt 119 = .ok (.ldc2_w 28, 3) := by decide +kernel
theorem dX1_turnAt_122 : decode cX1_turnAt 122 = .ok (.ldiv, 1) := by decide +kernel
theorem dX1_turnAt_123 : decode cX1_turnAt 123 = .ok (.lreturn, 1) := by decide +kernel
theorem dX1_turnAt_124 : decode cX1_turnAt 124 = .ok (.aload_n 0, 1) := by decide +kernel
theorem dX1_turnAt_125 : decode cX1_turnAt 125 = .ok (.getfield 15, 3) := by decide +kernel
theorem dX1_turnAt_128 : decode cX1_turnAt 128 = .ok (.aload_n 0, 1) := by decide +kernel
theorem dX1_turnAt_129 : decode cX1_turnAt 129 = .ok (.getfield 21, 3) := by decide +kernel
theorem dX1_turnAt_132 : decode cX1_turnAt 132 = .ok (.lmul, 1) := by decide +kernel
theorem dX1_turnAt_133 : decode cX1_turnAt 133 = .ok (.aload_n 0, 1) := by decide +kernel
theorem dX1_turnAt_134 : decode cX1_turnAt 134 = .ok (.getfield 9, 3) := by decide +kernel
theorem dX1_turnAt_137 : decode cX1_turnAt 137 = .ok (.aload_n 0, 1) := by decide +kernel
theorem dX1_turnAt_138 : decode cX1_turnAt 138 = .ok (.getfield 18, 3) := by decide +kernel
theorem dX1_turnAt_141 : decode cX1_turnAt 141 = .ok (.lmul, 1) := by decide +kernel
theorem dX1_turnAt_142 : decode cX1_turnAt 142 = .ok (.ladd, 1) := by decide +kernel
theorem dX1_turnAt_143 : decode cX1_turnAt 143 = .ok (.ldc2_w 28, 3) := by decide +kernel
theorem dX1_turnAt_146 : decode cX1_turnAt 146 = .ok (.ldiv, 1) := by decide +kernel
theorem dX1_turnAt_147 : decode cX1_turnAt 147 = .ok (.lreturn, 1) := by decide +kernel
theorem dX1_turnAt_148 : decode cX1_turnAt 148 = .ok (.aload_n 0, 1) := by decide +kernel
theorem dX1_turnAt_149 : decode cX1_turnAt 149 = .ok (.getfield 15, 3) := by decide +kernel
theorem dX1_turnAt_152 : decode cX1_turnAt 152 = .ok (.aload_n 0, 1) := by decide +kernel
theorem dX1_turnAt_153 : decode cX1_turnAt 153 = .ok (.getfield 18, 3) := by decide +kernel
theorem dX1_turnAt_156 : decode cX1_turnAt 156 = .ok (.lmul, 1) := by decide +kernel
theorem dX1_turnAt_157 : decode cX1_turnAt 157 = .ok (.aload_n 0, 1) := by decide +kernel
theorem dX1_turnAt_158 : decode cX1_turnAt 158 = .ok (.getfield 9, 3) := by decide +kernel
theorem dX1_turnAt_161 : decode cX1_turnAt 161 = .ok (.aload_n 0, 1) := by decide +kernel
theorem dX1_turnAt_162 : decode cX1_turnAt 162 = .ok (.getfield 21, 3) := by decide +kernel
theorem dX1_turnAt_165 : decode cX1_turnAt 165 = .ok (.lmul, 1) := by decide +kernel
theorem dX1_turnAt_166 : decode cX1_turnAt 166 = .ok (.ladd, 1) := by decide +kernel
theorem dX1_turnAt_167 : decode cX1_turnAt 167 = .ok (.ldc2_w 28, 3) := by decide +kernel
theorem dX1_turnAt_170 : decode cX1_turnAt 170 = .ok (.ldiv, 1) := by decide +kernel
theorem dX1_turnAt_171 : decode cX1_turnAt 171 = .ok (.lreturn, 1) := by decide +kernel
theorem dX1_turnAt_172 : decode cX1_turnAt 172 = .ok (.aload_n 0, 1) := by decide +kernel
theorem dX1_turnAt_173 : decode cX1_turnAt 173 = .ok (.getfield 9, 3) := by decide +kernel
theorem dX1_turnAt_176 : decode cX1_turnAt 176 = .ok (.aload_n 0, 1) := by decide +kernel
theorem dX1_turnAt_177 : decode cX1_turnAt 177 = .ok (.getfield 9, 3) := by decide +kernel
theorem dX1_turnAt_180 : decode cX1_turnAt 180 = .ok (.lmul, 1) := by decide +kernel
theorem dX1_turnAt_181 : decode cX1_turnAt 181 = .ok (.aload_n 0, 1) := by decide +kernel
theorem dX1_turnAt_182 : decode cX1_turnAt 182 = .ok (.getfield 15, 3) := by decide +kernel
theorem dX1_turnAt_185 : decode cX1_turnAt 185 = .ok (.aload_n 0, 1) := by decide +kernel
theorem dX1_turnAt_186 : decode cX1_turnAt 186 = .ok (.getfield 15, 3) := by decide +kernel
theorem dX1_turnAt_189 : decode cX1_turnAt 189 = .ok (.lmul, 1) := by decide +kernel
theorem dX1_turnAt_190 : decode cX1_turnAt 190 = .ok (.lsub, 1) := by decide +kernel
theorem dX1_turnAt_191 : decode cX1_turnAt 191 = .ok (.aload_n 0, 1) := by decide +kernel
theorem dX1_turnAt_192 : decode cX1_turnAt 192 = .ok (.getfield 18, 3) := by decide +kernel
theorem dX1_turnAt_195 : decode cX1_turnAt 195 = .ok (.aload_n 0, 1) := by decide +kernel
theorem dX1_turnAt_196 : decode cX1_turnAt 196 = .ok (.getfield 18, 3) := by decide +kernel
theorem dX1_turnAt_199 : decode cX1_turnAt 199 = .ok (.lmul, 1) := by decide +kernel
theorem dX1_turnAt_200 : decode cX1_turnAt 200 = .ok (.ladd, 1) := by decide +kernel
theorem dX1_turnAt_201 : decode cX1_turnAt 201 = .ok (.aload_n 0, 1) := by decide +kernel
theorem dX1_turnAt_202 : decode cX1_turnAt 202 = .ok (.getfield 21, 3) := by decide +kernel
theorem dX1_turnAt_205 : decode cX1_turnAt 205 = .ok (.aload_n 0, 1) := by decide +kernel
theorem dX1_turnAt_206 : decode cX1_turnAt 206 = .ok (.getfield 21, 3) := by decide +kernel
theorem dX1_turnAt_209 : decode cX1_turnAt 209 = .ok (.lmul, 1) := by decide +kernel
theorem dX1_turnAt_210 : decode cX1_turnAt 210 = .ok (.lsub, 1) := by decide +kernel
theorem dX1_turnAt_211 : decode cX1_turnAt 211 = .ok (.ldc2_w 54, 3) := by decide +kernel
theorem dX1_turnAt_214 : decode cX1_turnAt 214 = .ok (.ldiv, 1) := by decide +kernel
theorem dX1_turnAt_215 : decode cX1_turnAt 215 = .ok (.lreturn, 1) := by decide +kernel
theorem dX1_turnAt_216 : decode cX1_turnAt 216 = .ok (.aload_n 0, 1) := by decide +kernel
theorem dX1_turnAt_217 : decode cX1_turnAt 217 = .ok (.getfield 18, 3) := by decide +kernel
theorem dX1_turnAt_220 : decode cX1_turnAt 220 = .ok (.aload_n 0, 1) := by decide +kernel
theorem dX1_turnAt_221 : decode cX1_turnAt 221 = .ok (.getfield 21, 3) := by decide +kernel
theorem dX1_turnAt_224 : decode cX1_turnAt 224 = .ok (.lmul, 1) := by decide +kernel
theorem dX1_turnAt_225 : decode cX1_turnAt 225 = .ok (.aload_n 0, 1) := by decide +kernel
theorem dX1_turnAt_226 : decode cX1_turnAt 226 = .ok (.getfield 9, 3) := by decide +kernel
theorem dX1_turnAt_229 : decode cX1_turnAt 229 = .ok (.aload_n 0, 1) := by decide +kernel
theorem dX1_turnAt_230 : decode cX1_turnAt 230 = .ok (.getfield 15, 3) := by decide +kernel
theorem dX1_turnAt_233 : decode cX1_turnAt 233 = .ok (.lmul, 1) := by decide +kernel
theorem dX1_turnAt_234 : decode cX1_turnAt 234 = .ok (.lsub, 1) := by decide +kernel
theorem dX1_turnAt_235 : decode cX1_turnAt 235 = .ok (.ldc2_w 28, 3) := by decide +kernel
theorem dX1_turnAt_238 : decode cX1_turnAt 238 = .ok (.ldiv, 1) := by decide +kernel
theorem dX1_turnAt_239 : decode cX1_turnAt 239 = .ok (.lreturn, 1) := by decide +kernel
theorem dX1_turnAt_240 : decode cX1_turnAt 240 = .ok (.aload_n 0, 1) := by decide +kernel
theorem dX1_turnAt_241 : decode cX1_turnAt 241 = .ok (.getfield 15, 3) := by decide +kernel
theorem dX1_turnAt_244 : decode cX1_turnAt 244 = .ok (.aload_n 0, 1) := by decide +kernel
theorem dX1_turnAt_245 : decode cX1_turnAt 245 = .ok (.getfield 21, 3) := by decide +kernel
theorem dX1_turnAt_248 : decode cX1_turnAt 248 = .ok (.lmul, 1) := by decide +kernel
theorem dX1_turnAt_249 : decode cX1_turnAt 249 = .ok (.aload_n 0, 1) := by decide +kernel
theorem dX1_turnAt_250 : decode cX1_turnAt 250 = .ok (.getfield 9, 3) := by decide +kernel
theorem dX1_turnAt_253 : decode cX1_turnAt 253 = .ok (.aload_n 0, 1) := by decide +kernel
theorem dX1_turnAt_254 : decode cX1_turnAt 254 = .ok (.getfield 18, 3) := by decide +kernel
theorem dX1_turnAt_257 : decode cX1_turnAt 257 = .ok (.lmul, 1) := by decide +kernel
theorem dX1_turnAt_258 : decode cX1_turnAt 258 = .ok (.lsub, 1) := by decide +kernel
theorem dX1_turnAt_259 : decode cX1_turnAt 259 = .ok (.ldc2_w 28, 3) := by decide +kernel
theorem dX1_turnAt_262 : decode cX1_turnAt 262 = .ok (.ldiv, 1) := by decide +kernel
theorem dX1_turnAt_263 : decode cX1_turnAt 263 = .ok (.lreturn, 1) := by decide +kernel
theorem dX1_turnAt_264 : decode cX1_turnAt 264 = .ok (.aload_n 0, 1) := by decide +kernel
theorem dX1_turnAt_265 : decode cX1_turnAt 265 = .ok (.getfield 18, 3) := by decide +kernel
theorem dX1_turnAt_268 : decode cX1_turnAt 268 = .ok (.aload_n 0, 1) := by decide +kernel
theorem dX1_turnAt_269 : decode cX1_turnAt 269 = .ok (.getfield 21, 3) := by decide +kernel
theorem dX1_turnAt_272 : decode cX1_turnAt 272 = .ok (.lmul, 1) := by decide +kernel
theorem dX1_turnAt_273 : decode cX1_turnAt 273 = .ok (.aload_n 0, 1) := by decide +kernel
theorem dX1_turnAt_274 : decode cX1_turnAt 274 = .ok (.getfield 9, 3) := by decide +kernel
theorem dX1_turnAt_277 : decode cX1_turnAt 277 = .ok (.aload_n 0, 1) := by decide +kernel
theorem dX1_turnAt_278 : decode cX1_turnAt 278 = .ok (.getfield 15, 3) := by decide +kernel
theorem dX1_turnAt_281 : decode cX1_turnAt 281 = .ok (.lmul, 1) := by decide +kernel
theorem dX1_turnAt_282 : decode cX1_turnAt 282 = .ok (.ladd, 1) := by decide +kernel
theorem dX1_turnAt_283 : decode cX1_turnAt 283 = .ok (.ldc2_w 28, 3) := by decide +kernel
theorem dX1_turnAt_286 : decode cX1_turnAt 286 = .ok (.ldiv, 1) := by decide +kernel
theorem dX1_turnAt_287 : decode cX1_turnAt 287 = .ok (.lreturn, 1) := by decide +kernel
theorem dX1_turnAt_288 : decode cX1_turnAt 288 = .ok (.aload_n 0, 1) := by decide +kernel
theorem dX1_turnAt_289 : decode cX1_turnAt 289 = .ok (.getfield 9, 3) := by decide +kernel
theorem dX1_turnAt_292 : decode cX1_turnAt 292 = .ok (.aload_n 0, 1) := by decide +kernel
theorem dX1_turnAt_293 : decode cX1_turnAt 293 = .ok (.getfield 9, 3) := by decide +kernel
theorem dX1_turnAt_296 : decode cX1_turnAt 296 = .ok (.lmul, 1) := by decide +kernel
theorem dX1_turnAt_297 : decode cX1_turnAt 297 = .ok (.aload_n 0, 1) := by decide +kernel
theorem dX1_turnAt_298 : decode cX1_turnAt 298 = .ok (.getfield 15, 3) := by decide +kernel
theorem dX1_turnAt_301 : decode cX1_turnAt 301 = .ok (.aload_n 0, 1) := by decide +kernel
theorem dX1_turnAt_302 : decode cX1_turnAt 302 = .ok (.getfield 15, 3) := by decide +kernel
theorem dX1_turnAt_305 : decode cX1_turnAt 305 = .ok (.lmul, 1) := by decide +kernel
theorem dX1_turnAt_306 : decode cX1_turnAt 306 = .ok (.lsub, 1) := by decide +kernel
theorem dX1_turnAt_307 : decode cX1_turnAt 307 = .ok (.aload_n 0, 1) := by decide +kernel
theorem dX1_turnAt_308 : decode cX1_turnAt 308 = .ok (.getfield 18, 3) := by decide +kernel
theorem dX1_turnAt_311 : decode cX1_turnAt 311 = .ok (.aload_n 0, 1) := by decide +kernel
theorem dX1_turnAt_312 : decode cX1_turnAt 312 = .ok (.getfield 18, 3) := by decide +kernel
theorem dX1_turnAt_315 : decode cX1_turnAt 315 = .ok (.lmul, 1) := by decide +kernel
theorem dX1_turnAt_316 : decode cX1_turnAt 316 = .ok (.lsub, 1) := by decide +kernel
theorem dX1_turnAt_317 : decode cX1_turnAt 317 = .ok (.aload_n 0, 1) := by decide +kernel
theorem dX1_turnAt_318 : decode cX1_turnAt 318 = .ok (.getfield 21, 3) := by decide +kernel
theorem dX1_turnAt_321 : decode cX1_turnAt 321 = .ok (.aload_n 0, 1) := by decide +kernel
theorem dX1_turnAt_322 : decode cX1_turnAt 322 = .ok (.getfield 21, 3) := by decide +kernel
theorem dX1_turnAt_325 : decode cX1_turnAt 325 = .ok (.lmul, 1) := by decide +kernel
theorem dX1_turnAt_326 : decode cX1_turnAt 326 = .ok (.ladd, 1) := by decide +kernel
theorem dX1_turnAt_327 : decode cX1_turnAt 327 = .ok (.ldc2_w 54, 3) := by decide +kernel
theorem dX1_turnAt_330 : decode cX1_turnAt 330 = .ok (.ldiv, 1) := by decide +kernel
theorem dX1_turnAt_331 : decode cX1_turnAt 331 = .ok (.lreturn, 1) := by decide +kernel
theorem dX1_turnAt_332 : decode cX1_turnAt 332 = .ok (.lconst 0, 1) := by decide +kernel
theorem dX1_turnAt_333 : decode cX1_turnAt 333 = .ok (.lreturn, 1) := by decide +kernel
set_option maxRecDepth 20000 in
theorem ggX2_init_X1_init : GoodIn wsX2_init wsX1_init := goodIn_r _ [16, 17, 2, 3] (by decide +kernel) (by decide +kernel)
set_option maxRecDepth 20000 in
theorem gX2_init_X1_init_n11 : GoodIn wsX2_init (wsX1_init) := ggX2_init_X1_init
theorem dX2_init_0 : decode cX2_init 0 = .ok (.aload_n 0, 1) := by decide +kernel
theorem dX2_init_1 : decode cX2_init 1 = .ok (.invokespecial 3, 3) := by decide +kernel
theorem dX2_init_4 : decode cX2_init 4 = .ok (.aload_n 0, 1) := by decide +kernel
theorem dX2_init_5 : decode cX2_init 5 = .ok (.new 9, 3) := by decide +kernel
theorem dX2_init_8 : decode cX2_init 8 = .ok (.dup, 1) := by decide +kernel
theorem dX2_init_9 : decode cX2_init 9 = .ok (.invokespecial 11, 3) := by decide +kernel
theorem dX2_init_12 : decode cX2_init 12 = .ok (.putfield 12, 3) := by decide +kernel
theorem dX2_init_15 : decode cX2_init 15 = .ok (.aload_n 0, 1) := by decide +kernel
theorem dX2_init_16 : decode cX2_init 16 = .ok (.new 9, 3) := by decide +kernel
theorem dX2_init_19 : decode cX2_init 19 = .ok (.dup, 1) := by decide +kernel
theorem dX2_init_20 : decode cX2_init 20 = .ok (.invokespecial 11, 3) := by decide +kernel
theorem dX2_init_23 : decode cX2_init 23 = .ok (.putfield 18, 3) := by decide +kernel
theorem dX2_init_26 : decode cX2_init 26 = .ok (.aload_n 0, 1) := by decide +kernel
theorem dX2_init_27 : decode cX2_init 27 = .ok (.new 9, 3) := by decide +kernel
theorem dX2_init_30 : decode cX2_init 30 = .ok (.dup, 1) := by decide +kernel
theorem dX2_init_31 : decode cX2_init 31 = .ok (.invokespecial 11, 3) := by decide +kernel
theorem dX2_init_34 : decode cX2_init 34 = .ok (.putfield 21, 3) := by decide +kernel
theorem dX2_init_37 : decode cX2_init 37 = .ok (.aload_n 0, 1) := by decide +kernel
theorem dX2_init_38 : decode cX2_init 38 = .ok (.new 9, 3) := by decide +kernel
theorem dX2_init_41 : decode cX2_init 41 = .ok (.dup, 1) := by decide +kernel
theorem dX2_init_42 : decode cX2_init 42 = .ok (.invokespecial 11, 3) := by decide +kernel
theorem dX2_init_45 : decode cX2_init 45 = .ok (.putfield 24, 3) := by decide +kernel
theorem dX2_init_48 : decode cX2_init 48 = .ok (.aload_n 0, 1) := by decide +kernel
theorem dX2_init_49 : decode cX2_init 49 = .ok (.new 9, 3) := by decide +kernel
theorem dX2_init_52 : decode cX2_init 52 = .ok (.dup, 1) := by decide +kernel
theorem dX2_init_53 : decode cX2_init 53 = .ok (.invokespecial 11, 3) := by decide +kernel
theorem dX2_init_56 : decode cX2_init 56 = .ok (.putfield 27, 3) := by decide +kernel
theorem dX2_init_59 : decode cX2_init 59 = .ok (.aload_n 0, 1) := by decide +kernel
theorem dX2_init_60 : decode cX2_init 60 = .ok (.new 9, 3) := by decide +kernel
theorem dX2_init_63 : decode cX2_init 63 = .ok (.dup, 1) := by decide +kernel
theorem dX2_init_64 : decode cX2_init 64 = .ok (.invokespecial 11, 3) := by decide +kernel
theorem dX2_init_67 : decode cX2_init 67 = .ok (.putfield 30, 3) := by decide +kernel
theorem dX2_init_70 : decode cX2_init 70 = .ok (.aload_n 0, 1) := by decide +kernel
theorem dX2_init_71 : decode cX2_init 71 = .ok (.new 9, 3) := by decide +kernel
theorem dX2_init_74 : decode cX2_init 74 = .ok (.dup, 1) := by decide +kernel
theorem dX2_init_75 : decode cX2_init 75 = .ok (.invokespecial 11, 3) := by decide +kernel
theorem dX2_init_78 : decode cX2_init 78 = .ok (.putfield 33, 3) := by decide +kernel
theorem dX2_init_81 : decode cX2_init 81 = .ok (.aload_n 0, 1) := by decide +kernel
theorem dX2_init_82 : decode cX2_init 82 = .ok (.new 9, 3) := by decide +kernel
theorem dX2_init_85 : decode cX2_init 85 = .ok (.dup, 1) := by decide +kernel
theorem dX2_init_86 : decode cX2_init 86 = .ok (.invokespecial 11, 3) := by decide +kernel
theorem dX2_init_89 : decode cX2_init 89 = .ok (.putfield 36, 3) := by decide +kernel
theorem dX2_init_92 : decode cX2_init 92 = .ok (.return_, 1) := by decide +kernel
set_option maxRecDepth 20000 in
theorem ggX2_splitBy_X1_norm : GoodIn wsX2_splitBy wsX1_norm := goodIn_r _ [9, 10, 11, 12, 13, 14, 73, 74, 75, 76] (by decide +kernel) (by decide +kernel)
set_option maxRecDepth 20000 in
theorem gX2_splitBy_X1_norm : GoodIn wsX2_splitBy (wsV RX2 39 RX1 yX1_norm wsX1_norm) := goodIn_app (goodIn_of _ (by decide +kernel)) ggX2_splitBy_X1_norm
set_option maxRecDepth 20000 in
theorem ggX2_splitBy_X1_becomeMirror : GoodIn wsX2_splitBy wsX1_becomeMirror := goodIn_r _ [18, 10, 11, 12, 13, 19, 20, 21, 8, 22, 73, 74, 75, 76] (by decide +kernel) (by decide +kernel)
set_option maxRecDepth 20000 in
theorem gX2_splitBy_X1_becomeMirror : GoodIn wsX2_splitBy (wsV RX2 43 RX1 yX1_becomeMirror wsX1_becomeMirror) := goodIn_app (goodIn_of _ (by decide +kernel)) ggX2_splitBy_X1_becomeMirror
set_option maxRecDepth 20000 in
theorem ggX2_splitBy_X1_becomeProductOn : GoodIn wsX2_splitBy wsX1_becomeProductOn := goodIn_r _ [26, 27, 28, 29, 8, 30, 10, 11, 12, 13, 31, 19, 20, 21, 22, 73, 74, 75, 76] (by decide +kernel) (by decide +kernel)
set_option maxRecDepth 20000 in
theorem gX2_splitBy_X1_becomeProductOn : GoodIn wsX2_splitBy (wsV RX2 47 RX1 yX1_becomeProductOn wsX1_becomeProductOn) := goodIn_app (goodIn_of _ (by decide +kernel)) ggX2_splitBy_X1_becomeProductOn
set_option maxRecDepth 20000 in
theorem ggX2_splitBy_X1_becomeNearestWholes : GoodIn wsX2_splitBy wsX1_becomeNearestWholes := goodIn_r _ [35, 10, 11, 12, 13, 36, 37, 8, 38, 31, 39, 40, 41, 42, 19, 20, 21, 22, 73, 74, 75, 76] (by decide +kernel) (by decide +kernel)
set_option maxRecDepth 20000 in
theorem gX2_splitBy_X1_becomeNearestWholes : GoodIn wsX2_splitBy (wsV RX2 51 RX1 yX1_becomeNearestWholes wsX1_becomeNearestWholes) := goodIn_app (goodIn_of _ (by decide +kernel)) ggX2_splitBy_X1_becomeNearestWholes
set_option maxRecDepth 20000 in
theorem ggX2_splitBy_X1_becomeNearestHalves : GoodIn wsX2_splitBy wsX1_becomeNearestHalves := goodIn_r _ [46, 10, 11, 12, 13, 47, 48, 8, 49, 31, 39, 40, 41, 42, 19, 20, 21, 22, 73, 74, 75, 76] (by decide +kernel) (by decide +kernel)
set_option maxRecDepth 20000 in
theorem gX2_splitBy_X1_becomeNearestHalves : GoodIn wsX2_splitBy (wsV RX2 55 RX1 yX1_becomeNearestHalves wsX1_becomeNearestHalves) := goodIn_app (goodIn_of _ (by decide +kernel)) ggX2_splitBy_X1_becomeNearestHalves
set_option maxRecDepth 20000 in
theorem ggX2_splitBy_X1_offFrom : GoodIn wsX2_splitBy wsX1_offFrom := goodIn_r _ [53, 10, 11, 12, 13, 54, 55, 8, 56, 73, 74, 75, 76] (by decide +kernel) (by decide +kernel)
set_option maxRecDepth 20000 in
theorem gX2_splitBy_X1_offFrom : GoodIn wsX2_splitBy (wsV RX2 58 RX1 yX1_offFrom wsX1_offFrom) := goodIn_app (goodIn_of _ (by decide +kernel)) ggX2_splitBy_X1_offFrom
set_option maxRecDepth 20000 in
theorem ggX2_splitBy_X1_becomeLike : GoodIn wsX2_splitBy wsX1_becomeLike := goodIn_r _ [60, 10, 11, 12, 13, 19, 20, 21, 8, 22, 73, 74, 75, 76] (by decide +kernel) (by decide +kernel)
set_option maxRecDepth 20000 in
theorem gX2_splitBy_X1_becomeLike : GoodIn wsX2_splitBy (wsV RX2 62 RX1 yX1_becomeLike wsX1_becomeLike) := goodIn_app (goodIn_of _ (by decide +kernel)) ggX2_splitBy_X1_becomeLike
set_option maxRecDepth 20000 in
theorem ggX2_splitBy_X1_becomeDifference : GoodIn wsX2_splitBy wsX1_becomeDifference := goodIn_r _ [64, 10, 11, 12, 13, 19, 20, 21, 8, 22, 73, 74, 75, 76] (by decide +kernel) (by decide +kernel)
set_option maxRecDepth 20000 in
theorem gX2_splitBy_X1_becomeDifference : GoodIn wsX2_splitBy (wsV RX2 65 RX1 yX1_becomeDifference wsX1_becomeDifference) := goodIn_app (goodIn_of _ (by decide +kernel)) ggX2_splitBy_X1_becomeDifference
theorem dX2_splitBy_0 : decode cX2_splitBy 0 = .ok (.aload_n 2, 1) := by decide +kernel
theorem dX2_splitBy_1 : decode cX2_splitBy 1 = .ok (.invokevirtual 39, 3) := by decide +kernel
theorem dX2_splitBy_4 : decode cX2_splitBy 4 = .ok (.lstore 4, 2) := by decide +kernel
theorem dX2_splitBy_6 : decode cX2_splitBy 6 = .ok (.lload 4, 2) := by decide +kernel
theorem dX2_splitBy_8 : decode cX2_splitBy 8 = .ok (.lconst 0, 1) := by decide +kernel
theorem dX2_splitBy_9 : decode cX2_splitBy 9 = .ok (.lcmp, 1) := by decide +kernel
theorem dX2_splitBy_10 : decode cX2_splitBy 10 = .ok (.ifCond .ne 5, 3) := by decide +kernel
theorem dX2_splitBy_13 : decode cX2_splitBy 13 = .ok (.iconst 0, 1) := by decide +kernel
theorem dX2_splitBy_14 : decode cX2_splitBy 14 = .ok (.ireturn, 1) := by decide +kernel
theorem dX2_splitBy_15 : decode cX2_splitBy 15 = .ok (.aload_n 0, 1) := by decide +kernel
theorem dX2_splitBy_16 : decode cX2_splitBy 16 = .ok (.getfield 30, 3) := by decide +kernel
theorem dX2_splitBy_19 : decode cX2_splitBy 19 = .ok (.aload_n 2, 1) := by decide +kernel
theorem dX2_splitBy_20 : decode cX2_splitBy 20 = .ok (.invokevirtual 43, 3) := by decide +kernel
theorem dX2_splitBy_23 : decode cX2_splitBy 23 = .ok (.aload_n 0, 1) := by decide +kernel
theorem dX2_splitBy_24 : decode cX2_splitBy 24 = .ok (.getfield 30, 3) := by decide +kernel
theorem dX2_splitBy_27 : decode cX2_splitBy 27 = .ok (.iload_n 3, 1) := by decide +kernel
theorem dX2_splitBy_28 : decode cX2_splitBy 28 = .ok (.aload_n 1, 1) := by decide +kernel
theorem dX2_splitBy_29 : decode cX2_splitBy 29 = .ok (.aload_n 0, 1) := by decide +kernel
theorem dX2_splitBy_30 : decode cX2_splitBy 30 = .ok (.getfield 30, 3) := by decide +kernel
theorem dX2_splitBy_33 : decode cX2_splitBy 33 = .ok (.invokevirtual 47, 3) := by decide +kernel
theorem dX2_splitBy_36 : decode cX2_splitBy 36 = .ok (.aload_n 0, 1) := by decide +kernel
theorem dX2_splitBy_37 : decode cX2_splitBy 37 = .ok (.getfield 12, 3) := by decide +kernel
theorem dX2_splitBy_40 : decode cX2_splitBy 40 = .ok (.aload_n 0, 1) := by decide +kernel
theorem dX2_splitBy_41 : decode cX2_splitBy 41 = .ok (.getfield 30, 3) := by decide +kernel
theorem dX2_splitBy_44 : decode cX2_splitBy 44 = .ok (.lload 4, 2) := by decide +kernel
theorem dX2_splitBy_46 : decode cX2_splitBy 46 = .ok (.invokevirtual 51, 3) := by decide +kernel
theorem dX2_splitBy_49 : decode cX2_splitBy 49 = .ok (.aload_n 0, 1) := by decide +kernel
theorem dX2_splitBy_50 : decode cX2_splitBy 50 = .ok (.getfield 33, 3) := by decide +kernel
theorem dX2_splitBy_53 : decode cX2_splitBy 53 = .ok (.aload_n 0, 1) := by decide +kernel
theorem dX2_splitBy_54 : decode cX2_splitBy 54 = .ok (.getfield 30, 3) := by decide +kernel
theorem dX2_splitBy_57 : decode cX2_splitBy 57 = .ok (.lload 4, 2) := by decide +kernel
theorem dX2_splitBy_59 : decode cX2_splitBy 59 = .ok (.invokevirtual 55, 3) := by decide +kernel
theorem dX2_splitBy_62 : decode cX2_splitBy 62 = .ok (.aload_n 0, 1) := by decide +kernel
theorem dX2_splitBy_63 : decode cX2_splitBy 63 = .ok (.getfield 33, 3) := by decide +kernel
theorem dX2_splitBy_66 : decode cX2_splitBy 66 = .ok (.aload_n 0, 1) := by decide +kernel
theorem dX2_splitBy_67 : decode cX2_splitBy 67 = .ok (.getfield 30, 3) := by decide +kernel
theorem dX2_splitBy_70 : decode cX2_splitBy 70 = .ok (.lload 4, 2) := by decide +kernel
theorem dX2_splitBy_72 : decode cX2_splitBy 72 = .ok (.invokevirtual 58, 3) := by decide +kernel
theorem dX2_splitBy_75 : decode cX2_splitBy 75 = .ok (.aload_n 0, 1) := by decide +kernel
theorem dX2_splitBy_76 : decode cX2_splitBy 76 = .ok (.getfield 12, 3) := by decide +kernel
theorem dX2_splitBy_79 : decode cX2_splitBy 79 = .ok (.aload_n 0, 1) := by decide +kernel
theorem dX2_splitBy_80 : decode cX2_splitBy 80 = .ok (.getfield 30, 3) := by decide +kernel
theorem dX2_splitBy_83 : decode cX2_splitBy 83 = .ok (.lload 4, 2) := by decide +kernel
theorem dX2_splitBy_85 : decode cX2_splitBy 85 = .ok (.invokevirtual 58, 3) := by decide +kernel
theorem dX2_splitBy_88 : decode cX2_splitBy 88 = .ok (.lcmp, 1) := by decide +kernel
theorem dX2_splitBy_89 : decode cX2_splitBy 89 = .ok (.ifCond .ge 14, 3) := by decide +kernel
theorem dX2_splitBy_92 : decode cX2_splitBy 92 = .ok (.aload_n 0, 1) := by decide +kernel
theorem dX2_splitBy_93 : decode cX2_splitBy 93 = .ok (.getfield 12, 3) := by decide +kernel
theorem dX2_splitBy_96 : decode cX2_splitBy 96 = .ok (.aload_n 0, 1) := by decide +kernel
theorem dX2_splitBy_97 : decode cX2_splitBy 97 = .ok (.getfield 33, 3) := by decide +kernel
theorem dX2_splitBy_100 : decode cX2_splitBy 100 = .ok (.invokevirtual 62, 3) := by decide +kernel
theorem dX2_splitBy_103 : decode cX2_splitBy 103 = .ok (.aload_n 0, 1) := by decide +kernel
theorem dX2_splitBy_104 : decode cX2_splitBy 104 = .ok (.getfield 18, 3) := by decide +kernel
theorem dX2_splitBy_107 : decode cX2_splitBy 107 = .ok (.iload_n 3, 1) := by decide +kernel
theorem dX2_splitBy_108 : decode cX2_splitBy 108 = .ok (.aload_n 0, 1) := by decide +kernel
theorem dX2_splitBy_109 : decode cX2_splitBy 109 = .ok (.getfield 12, 3) := by decide +kernel
theorem dX2_splitBy_112 : decode cX2_splitBy 112 = .ok (.aload_n 2, 1) := by decide +kernel
theorem dX2_splitBy_113 : decode cX2_splitBy 113 = .ok (.invokevirtual 47, 3) := by decide +kernel
theorem dX2_splitBy_116 : decode cX2_splitBy 116 = .ok (.aload_n 0, 1) := by decide +kernel
theorem dX2_splitBy_117 : decode cX2_splitBy 117 = .ok (.getfield 18, 3) := by decide +kernel
theorem dX2_splitBy_120 : decode cX2_splitBy 120 = .ok (.aload_n 1, 1) := by decide +kernel
theorem dX2_splitBy_121 : decode cX2_splitBy 121 = .ok (.aload_n 0, 1) := by decide +kernel
theorem dX2_splitBy_122 : decode cX2_splitBy 122 = .ok (.getfield 18, 3) := by decide +kernel
theorem dX2_splitBy_125 : decode cX2_splitBy 125 = .ok (.invokevirtual 65, 3) := by decide +kernel
theorem dX2_splitBy_128 : decode cX2_splitBy 128 = .ok (.iconst 1, 1) := by decide +kernel
theorem dX2_splitBy_129 : decode cX2_splitBy 129 = .ok (.ireturn, 1) := by decide +kernel
set_option maxRecDepth 20000 in
theorem ggX2_findCommon_X1_becomeLike : GoodIn wsX2_findCommon wsX1_becomeLike := goodIn_r _ [8, 9, 10, 11, 12, 13, 14, 15, 7, 16, 94, 95, 96, 97] (by decide +kernel) (by decide +kernel)
set_option maxRecDepth 20000 in
theorem gX2_findCommon_X1_becomeLike : GoodIn wsX2_findCommon (wsV RX2 62 RX1 yX1_becomeLike wsX1_becomeLike) := goodIn_app (goodIn_of _ (by decide +kernel)) ggX2_findCommon_X1_becomeLike
set_option maxRecDepth 20000 in
theorem ggX2_findCommon_X2_splitBy : GoodIn wsX2_findCommon wsX2_splitBy := goodIn_r _ [21, 22, 23, 24, 3, 25, 26, 27, 7, 28, 9, 10, 11, 12, 29, 30, 31, 32, 33, 13, 14, 15, 16, 34, 35, 36, 37, 38, 39, 40, 41, 42, 43, 44, 45, 46, 47, 48, 49, 50, 51, 52, 53, 54, 55, 56, 57, 58, 59, 60, 61, 62, 63, 64, 65, 66, 67, 4, 5, 6, 8, 68, 69, 70, 71, 86, 87, 88, 89, 90, 91, 92, 93, 94, 95, 96, 97] (by decide +kernel) (by decide +kernel)
set_option maxRecDepth 20000 in
theorem gX2_findCommon_X2_splitBy : GoodIn wsX2_findCommon (wsV RX2 69 RX2 yX2_splitBy wsX2_splitBy) := goodIn_app (goodIn_of _ (by decide +kernel)) ggX2_findCommon_X2_splitBy
set_option maxRecDepth 20000 in
theorem ggX2_findCommon_X2_findGreatestLike : GoodIn wsX2_findCommon wsX2_findGreatestLike := goodIn_r _ [75, 76, 77, 4, 5, 6, 7, 8, 9, 10, 11, 12, 13, 14, 15, 16, 78, 79, 80, 81, 34, 35, 36, 37, 38, 39, 40, 41, 42, 82, 83, 84, 85, 86, 87, 88, 89, 90, 91, 92, 93, 94, 95, 96, 97] (by decide +kernel) (by decide +kernel)
set_option maxRecDepth 20000 in
theorem gX2_findCommon_X2_findGreatestLike : GoodIn wsX2_findCommon (wsV RX2 73 RX2 yX2_findGreatestLike wsX2_findGreatestLike) := goodIn_app (goodIn_of _ (by decide +kernel)) ggX2_findCommon_X2_findGreatestLike
theorem dX2_findCommon_0 : decode cX2_findCommon 0 = .ok (.aload_n 0, 1) := by decide +kernel
theorem dX2_findCommon_1 : decode cX2_findCommon 1 = .ok (.getfield 24, 3) := by decide +kernel
theorem dX2_findCommon_4 : decode cX2_findCommon 4 = .ok (.aload_n 1, 1) := by decide +kernel
theorem dX2_findCommon_5 : decode cX2_findCommon 5 = .ok (.invokevirtual 62, 3) := by decide +kernel
theorem dX2_findCommon_8 : decode cX2_findCommon 8 = .ok (.aload_n 0, 1) := by decide +kernel
theorem dX2_findCommon_9 : decode cX2_findCommon 9 = .ok (.getfield 27, 3) := by decide +kernel
theorem dX2_findCommon_12 : decode cX2_findCommon 12 = .ok (.aload_n 2, 1) := by decide +kernel
theorem dX2_findCommon_13 : decode cX2_findCommon 13 = .ok (.invokevirtual 62, 3) := by decide +kernel
theorem dX2_findCommon_16 : decode cX2_findCommon 16 = .ok (.iconst 0, 1) := by decide +kernel
theorem dX2_findCommon_17 : decode cX2_findCommon 17 = .ok (.istore 4, 2) := by decide +kernel
theorem dX2_findCommon_19 : decode cX2_findCommon 19 = .ok (.iload 4, 2) := by decide +kernel
theorem dX2_findCommon_21 : decode cX2_findCommon 21 = .ok (.bipush 100, 2) := by decide +kernel
theorem dX2_findCommon_23 : decode cX2_findCommon 23 = .ok (.if_icmp .ge 47, 3) := by decide +kernel
theorem dX2_findCommon_26 : decode cX2_findCommon 26 = .ok (.aload_n 0, 1) := by decide +kernel
theorem dX2_findCommon_27 : decode cX2_findCommon 27 = .ok (.aload_n 0, 1) := by decide +kernel
theorem dX2_findCommon_28 : decode cX2_findCommon 28 = .ok (.getfield 24, 3) := by decide +kernel
theorem dX2_findCommon_31 : decode cX2_findCommon 31 = .ok (.aload_n 0, 1) := by decide +kernel
theorem dX2_findCommon_32 : decode cX2_findCommon 32 = .ok (.getfield 27, 3) := by decide +kernel
theorem dX2_findCommon_35 : decode cX2_findCommon 35 = .ok (.iload_n 3, 1) := by decide +kernel
theorem dX2_findCommon_36 : decode cX2_findCommon 36 = .ok (.invokevirtual 69, 3) := by decide +kernel
theorem dX2_findCommon_39 : decode cX2_findCommon 39 = .ok (.ifCond .eq 31, 3) := by decide +kernel
theorem dX2_findCommon_42 : decode cX2_findCommon 42 = .ok (.aload_n 0, 1) := by decide +kernel
theorem dX2_findCommon_43 : decode cX2_findCommon 43 = .ok (.getfield 24, 3) := by decide +kernel
theorem dX2_findCommon_46 : decode cX2_findCommon 46 = .ok (.aload_n 0, 1) := by decide +kernel
theorem dX2_findCommon_47 : decode cX2_findCommon 47 = .ok (.getfield 27, 3) := by decide +kernel
theorem dX2_findCommon_50 : decode cX2_findCommon 50 = .ok (.invokevirtual 62, 3) := by decide +kernel
theorem dX2_findCommon_53 : decode cX2_findCommon 53 = .ok (.aload_n 0, 1) := by decide +kernel
theorem dX2_findCommon_54 : decode cX2_findCommon 54 = .ok (.getfield 27, 3) := by decide +kernel
theorem dX2_findCommon_57 : decode cX2_findCommon 57 = .ok (.aload_n 0, 1) := by decide +kernel
theorem dX2_findCommon_58 : decode cX2_findCommon 58 = .ok (.getfield 18, 3) := by decide +kernel
theorem dX2_findCommon_61 : decode cX2_findCommon 61 = .ok (.invokevirtual 62, 3) := by decide +kernel
theorem dX2_findCommon_64 : decode cX2_findCommon 64 = .ok (.iinc 4 1, 3) := by decide +kernel
theorem dX2_findCommon_67 : decode cX2_findCommon 67 = .ok (.goto (-48), 3) := by decide +kernel
theorem dX2_findCommon_70 : decode cX2_findCommon 70 = .ok (.aload_n 0, 1) := by decide +kernel
theorem dX2_findCommon_71 : decode cX2_findCommon 71 = .ok (.aload_n 0, 1) := by decide +kernel
theorem dX2_findCommon_72 : decode cX2_findCommon 72 = .ok (.getfield 24, 3) := by decide +kernel
theorem dX2_findCommon_75 : decode cX2_findCommon 75 = .ok (.iload_n 3, 1) := by decide +kernel
theorem dX2_findCommon_76 : decode cX2_findCommon 76 = .ok (.ifCond .ne 7, 3) := by decide +kernel
theorem dX2_findCommon_79 : decode cX2_findCommon 79 = .ok (.iconst 1, 1) := by decide +kernel
theorem dX2_findCommon_80 : decode cX2_findCommon 80 = .ok (.goto 4, 3) := by decide +kernel
theorem dX2_findCommon_83 : decode cX2_findCommon 83 = .ok (.iconst 0, 1) := by decide +kernel
theorem dX2_findCommon_84 : decode cX2_findCommon 84 = .ok (.invokevirtual 73, 3) := by decide +kernel
theorem dX2_findCommon_87 : decode cX2_findCommon 87 = .ok (.return_, 1) := by decide +kernel
set_option maxRecDepth 20000 in
theorem ggX2_findGreatestLike_X1_becomeLike : GoodIn wsX2_findGreatestLike wsX1_becomeLike := goodIn_r _ [7, 8, 9, 10, 11, 12, 13, 14, 6, 15, 41, 42, 43, 44] (by decide +kernel) (by decide +kernel)
set_option maxRecDepth 20000 in
theorem gX2_findGreatestLike_X1_becomeLike : GoodIn wsX2_findGreatestLike (wsV RX2 62 RX1 yX1_becomeLike wsX1_becomeLike) := goodIn_app (goodIn_of _ (by decide +kernel)) ggX2_findGreatestLike_X1_becomeLike
set_option maxRecDepth 20000 in
theorem ggX2_findGreatestLike_X1_becomeUnit : GoodIn wsX2_findGreatestLike wsX1_becomeUnit := goodIn_r _ [19, 12, 13, 14, 6, 15, 8, 9, 10, 11, 41, 42, 43, 44] (by decide +kernel) (by decide +kernel)
set_option maxRecDepth 20000 in
theorem gX2_findGreatestLike_X1_becomeUnit : GoodIn wsX2_findGreatestLike (wsV RX2 77 RX1 yX1_becomeUnit wsX1_becomeUnit) := goodIn_app (goodIn_of _ (by decide +kernel)) ggX2_findGreatestLike_X1_becomeUnit
set_option maxRecDepth 20000 in
theorem ggX2_findGreatestLike_X1_becomeProductOn : GoodIn wsX2_findGreatestLike wsX1_becomeProductOn := goodIn_r _ [23, 24, 25, 26, 6, 27, 8, 9, 10, 11, 28, 12, 13, 14, 15, 41, 42, 43, 44] (by decide +kernel) (by decide +kernel)
set_option maxRecDepth 20000 in
theorem gX2_findGreatestLike_X1_becomeProductOn : GoodIn wsX2_findGreatestLike (wsV RX2 47 RX1 yX1_becomeProductOn wsX1_becomeProductOn) := goodIn_app (goodIn_of _ (by decide +kernel)) ggX2_findGreatestLike_X1_becomeProductOn
set_option maxRecDepth 20000 in
theorem ggX2_findGreatestLike_X1_isGreaterThan : GoodIn wsX2_findGreatestLike wsX1_isGreaterThan := goodIn_r _ [32, 8, 9, 10, 11, 41, 42, 43, 44] (by decide +kernel) (by decide +kernel)
set_option maxRecDepth 20000 in
theorem gX2_findGreatestLike_X1_isGreaterThan : GoodIn wsX2_findGreatestLike (wsV RX2 81 RX1 yX1_isGreaterThan wsX1_isGreaterThan) := goodIn_app (goodIn_of _ (by decide +kernel)) ggX2_findGreatestLike_X1_isGreaterThan
theorem dX2_findGreatestLike_0 : decode cX2_findGreatestLike 0 = .ok (.aload_n 0, 1) := by decide +kernel
theorem dX2_findGreatestLike_1 : decode cX2_findGreatestLike 1 = .ok (.getfield 21, 3) := by decide +kernel
theorem dX2_findGreatestLike_4 : decode cX2_findGreatestLike 4 = .ok (.aload_n 1, 1) := by decide +kernel
theorem dX2_findGreatestLike_5 : decode cX2_findGreatestLike 5 = .ok (.invokevirtual 62, 3) := by decide +kernel
theorem dX2_findGreatestLike_8 : decode cX2_findGreatestLike 8 = .ok (.iconst 0, 1) := by decide +kernel
theorem dX2_findGreatestLike_9 : decode cX2_findGreatestLike 9 = .ok (.istore_n 3, 1) := by decide +kernel
theorem dX2_findGreatestLike_10 : decode cX2_findGreatestLike 10 = .ok (.iload_n 3, 1) := by decide +kernel
theorem dX2_findGreatestLike_11 : decode cX2_findGreatestLike 11 = .ok (.bipush 24, 2) := by decide +kernel
theorem dX2_findGreatestLike_13 : decode cX2_findGreatestLike 13 = .ok (.if_icmp .ge 55, 3) := by decide +kernel
theorem dX2_findGreatestLike_16 : decode cX2_findGreatestLike 16 = .ok (.aload_n 0, 1) := by decide +kernel
theorem dX2_findGreatestLike_17 : decode cX2_findGreatestLike 17 = .ok (.getfield 36, 3) := by decide +kernel
theorem dX2_findGreatestLike_20 : decode cX2_findGreatestLike 20 = .ok (.iload_n 3, 1) := by decide +kernel
theorem dX2_findGreatestLike_21 : decode cX2_findGreatestLike 21 = .ok (.invokevirtual 77, 3) := by decide +kernel
theorem dX2_findGreatestLike_24 : decode cX2_findGreatestLike 24 = .ok (.aload_n 0, 1) := by decide +kernel
theorem dX2_findGreatestLike_25 : decode cX2_findGreatestLike 25 = .ok (.getfield 36, 3) := by decide +kernel
theorem dX2_findGreatestLike_28 : decode cX2_findGreatestLike 28 = .ok (.iload_n 2, 1) := by decide +kernel
theorem dX2_findGreatestLike_29 : decode cX2_findGreatestLike 29 = .ok (.aload_n 1, 1) := by decide +kernel
theorem dX2_findGreatestLike_30 : decode cX2_findGreatestLike 30 = .ok (.aload_n 0, 1) := by decide +kernel
theorem dX2_findGreatestLike_31 : decode cX2_findGreatestLike 31 = .ok (.getfield 36, 3) := by decide +kernel
theorem dX2_findGreatestLike_34 : decode cX2_findGreatestLike 34 = .ok (.invokevirtual 47, 3) := by decide +kernel
theorem dX2_findGreatestLike_37 : decode cX2_findGreatestLike 37 = .ok (.aload_n 0, 1) := by decide +kernel
theorem dX2_findGreatestLike_38 : decode cX2_findGreatestLike 38 = .ok (.getfield 36, 3) := by decide +kernel
theorem dX2_findGreatestLike_41 : decode cX2_findGreatestLike 41 = .ok (.aload_n 0, 1) := by decide +kernel
theorem dX2_findGreatestLike_42 : decode cX2_findGreatestLike 42 = .ok (.getfield 21, 3) := by decide +kernel
theorem dX2_findGreatestLike_45 : decode cX2_findGreatestLike 45 = .ok (.invokevirtual 81, 3) := by decide +kernel
theorem dX2_findGreatestLike_48 : decode cX2_findGreatestLike 48 = .ok (.ifCond .eq 14, 3) := by decide +kernel
theorem dX2_findGreatestLike_51 : decode cX2_findGreatestLike 51 = .ok (.aload_n 0, 1) := by decide +kernel
theorem dX2_findGreatestLike_52 : decode cX2_findGreatestLike 52 = .ok (.getfield 21, 3) := by decide +kernel
theorem dX2_findGreatestLike_55 : decode cX2_findGreatestLike 55 = .ok (.aload_n 0, 1) := by decide +kernel
theorem dX2_findGreatestLike_56 : decode cX2_findGreatestLike 56 = .ok (.getfield 36, 3) := by decide +kernel
theorem dX2_findGreatestLike_59 : decode cX2_findGreatestLike 59 = .ok (.invokevirtual 62, 3) := by decide +kernel
theorem dX2_findGreatestLike_62 : decode cX2_findGreatestLike 62 = .ok (.iinc 3 1, 3) := by decide +kernel
theorem dX2_findGreatestLike_65 : decode cX2_findGreatestLike 65 = .ok (.goto (-55), 3) := by decide +kernel
theorem dX2_findGreatestLike_68 : decode cX2_findGreatestLike 68 = .ok (.return_, 1) := by decide +kernel
theorem dX3_init_0 : decode cX3_init 0 = .ok (.aload_n 0, 1) := by decide +kernel
theorem dX3_init_1 : decode cX3_init 1 = .ok (.invokespecial 3, 3) := by decide +kernel
theorem dX3_init_4 : decode cX3_init 4 = .ok (.aload_n 0, 1) := by decide +kernel
theorem dX3_init_5 : decode cX3_init 5 = .ok (.bipush 16, 2) := by decide +kernel
theorem dX3_init_7 : decode cX3_init 7 = .ok (.newarray .long, 2) := by decide +kernel
theorem dX3_init_9 : decode cX3_init 9 = .ok (.putfield 9, 3) := by decide +kernel
theorem dX3_init_12 : decode cX3_init 12 = .ok (.aload_n 0, 1) := by decide +kernel
theorem dX3_init_13 : decode cX3_init 13 = .ok (.iconst 0, 1) := by decide +kernel
theorem dX3_init_14 : decode cX3_init 14 = .ok (.putfield 15, 3) := by decide +kernel
theorem dX3_init_17 : decode cX3_init 17 = .ok (.aload_n 0, 1) := by decide +kernel
theorem dX3_init_18 : decode cX3_init 18 = .ok (.iconst (-1), 1) := by decide +kernel
theorem dX3_init_19 : decode cX3_init 19 = .ok (.putfield 19, 3) := by decide +kernel
theorem dX3_init_22 : decode cX3_init 22 = .ok (.return_, 1) := by decide +kernel
theorem dX3_isMissing_0 : decode cX3_isMissing 0 = .ok (.aload_n 0, 1) := by decide +kernel
theorem dX3_isMissing_1 : decode cX3_isMissing 1 = .ok (.getfield 19, 3) := by decide +kernel
theorem dX3_isMissing_4 : decode cX3_isMissing 4 = .ok (.iconst (-1), 1) := by decide +kernel
theorem dX3_isMissing_5 : decode cX3_isMissing 5 = .ok (.if_icmp .ne 7, 3) := by decide +kernel
theorem dX3_isMissing_8 : decode cX3_isMissing 8 = .ok (.iconst 1, 1) := by decide +kernel
theorem dX3_isMissing_9 : decode cX3_isMissing 9 = .ok (.goto 4, 3) := by decide +kernel
theorem dX3_isMissing_12 : decode cX3_isMissing 12 = .ok (.iconst 0, 1) := by decide +kernel
theorem dX3_isMissing_13 : decode cX3_isMissing 13 = .ok (.ireturn, 1) := by decide +kernel
theorem dX3_renew_0 : decode cX3_renew 0 = .ok (.iconst 0, 1) := by decide +kernel
theorem dX3_renew_1 : decode cX3_renew 1 = .ok (.istore_n 3, 1) := by decide +kernel
theorem dX3_renew_2 : decode cX3_renew 2 = .ok (.iload_n 3, 1) := by decide +kernel
theorem dX3_renew_3 : decode cX3_renew 3 = .ok (.aload_n 0, 1) := by decide +kernel
theorem dX3_renew_4 : decode cX3_renew 4 = .ok (.getfield 9, 3) := by decide +kernel
theorem dX3_renew_7 : decode cX3_renew 7 = .ok (.arraylength, 1) := by decide +kernel
theorem dX3_renew_8 : decode cX3_renew 8 = .ok (.if_icmp .ge 16, 3) := by decide +kernel
theorem dX3_renew_11 : decode cX3_renew 11 = .ok (.aload_n 0, 1) := by decide +kernel
theorem dX3_renew_12 : decode cX3_renew 12 = .ok (.getfield 9, 3) := by decide +kernel
theorem dX3_renew_15 : decode cX3_renew 15 = .ok (.iload_n 3, 1) := by decide +kernel
theorem dX3_renew_16 : decode cX3_renew 16 = .ok (.lconst 0, 1) := by decide +kernel
theorem dX3_renew_17 : decode cX3_renew 17 = .ok (.lastore, 1) := by decide +kernel
theorem dX3_renew_18 : decode cX3_renew 18 = .ok (.iinc 3 1, 3) := by decide +kernel
theorem dX3_renew_21 : decode cX3_renew 21 = .ok (.goto (-19), 3) := by decide +kernel
theorem dX3_renew_24 : decode cX3_renew 24 = .ok (.aload_n 0, 1) := by decide +kernel
theorem dX3_renew_25 : decode cX3_renew 25 = .ok (.iload_n 1, 1) := by decide +kernel
theorem dX3_renew_26 : decode cX3_renew 26 = .ok (.putfield 19, 3) := by decide +kernel
theorem dX3_renew_29 : decode cX3_renew 29 = .ok (.aload_n 0, 1) := by decide +kernel
theorem dX3_renew_30 : decode cX3_renew 30 = .ok (.iconst 0, 1) := by decide +kernel
theorem dX3_renew_31 : decode cX3_renew 31 = .ok (.iload_n 2, 1) := by decide +kernel
theorem dX3_renew_32 : decode cX3_renew 32 = .ok (.aload_n 0, 1) := by decide +kernel
theorem dX3_renew_33 : decode cX3_renew 33 = .ok (.getfield 9, 3) := by decide +kernel
theorem dX3_renew_36 : decode cX3_renew 36 = .ok (.arraylength, 1) := by decide +kernel
theorem dX3_renew_37 : decode cX3_renew 37 = .ok (.invokestatic 22, 3) := by decide +kernel
theorem dX3_renew_40 : decode cX3_renew 40 = .ok (.invokestatic 28, 3) := by decide +kernel
theorem dX3_renew_43 : decode cX3_renew 43 = .ok (.putfield 15, 3) := by decide +kernel
theorem dX3_renew_46 : decode cX3_renew 46 = .ok (.return_, 1) := by decide +kernel
theorem dX3_reaches_0 : decode cX3_reaches 0 = .ok (.iload_n 1, 1) := by decide +kernel
theorem dX3_reaches_1 : decode cX3_reaches 1 = .ok (.ifCond .lt 29, 3) := by decide +kernel
theorem dX3_reaches_4 : decode cX3_reaches 4 = .ok (.iload_n 2, 1) := by decide +kernel
theorem dX3_reaches_5 : decode cX3_reaches 5 = .ok (.ifCond .lt 25, 3) := by decide +kernel
theorem dX3_reaches_8 : decode cX3_reaches 8 = .ok (.iload_n 1, 1) := by decide +kernel
theorem dX3_reaches_9 : decode cX3_reaches 9 = .ok (.aload_n 0, 1) := by decide +kernel
theorem dX3_reaches_10 : decode cX3_reaches 10 = .ok (.getfield 15, 3) := by decide +kernel
theorem dX3_reaches_13 : decode cX3_reaches 13 = .ok (.if_icmp .gt 17, 3) := by decide +kernel
theorem dX3_reaches_16 : decode cX3_reaches 16 = .ok (.iload_n 2, 1) := by decide +kernel
theorem dX3_reaches_17 : decode cX3_reaches 17 = .ok (.aload_n 0, 1) := by decide +kernel
theorem dX3_reaches_18 : decode cX3_reaches 18 = .ok (.getfield 15, 3) := by decide +kernel
theorem dX3_reaches_21 : decode cX3_reaches 21 = .ok (.iload_n 1, 1) := by decide +kernel
theorem dX3_reaches_22 : decode cX3_reaches 22 = .ok (.isub, 1) := by decide +kernel
theorem dX3_reaches_23 : decode cX3_reaches 23 = .ok (.if_icmp .gt 7, 3) := by decide +kernel
theorem dX3_reaches_26 : decode cX3_reaches 26 = .ok (.iconst 1, 1) := by decide +kernel
theorem dX3_reaches_27 : decode cX3_reaches 27 = .ok (.goto 4, 3) := by decide +kernel
theorem dX3_reaches_30 : decode cX3_reaches 30 = .ok (.iconst 0, 1) := by decide +kernel
theorem dX3_reaches_31 : decode cX3_reaches 31 = .ok (.ireturn, 1) := by decide +kernel
theorem dX3_at_0 : decode cX3_at 0 = .ok (.iload_n 1, 1) := by decide +kernel
theorem dX3_at_1 : decode cX3_at 1 = .ok (.ifCond .lt 20, 3) := by decide +kernel
theorem dX3_at_4 : decode cX3_at 4 = .ok (.iload_n 1, 1) := by decide +kernel
theorem dX3_at_5 : decode cX3_at 5 = .ok (.aload_n 0, 1) := by decide +kernel
theorem dX3_at_6 : decode cX3_at 6 = .ok (.getfield 15, 3) := by decide +kernel
theorem dX3_at_9 : decode cX3_at 9 = .ok (.if_icmp .ge 12, 3) := by decide +kernel
theorem dX3_at_12 : decode cX3_at 12 = .ok (.aload_n 0, 1) := by decide +kernel
theorem dX3_at_13 : decode cX3_at 13 = .ok (.getfield 9, 3) := by decide +kernel
theorem dX3_at_16 : decode cX3_at 16 = .ok (.iload_n 1, 1) := by decide +kernel
theorem dX3_at_17 : decode cX3_at 17 = .ok (.laload, 1) := by decide +kernel
theorem dX3_at_18 : decode cX3_at 18 = .ok (.goto 4, 3) := by decide +kernel
theorem dX3_at_21 : decode cX3_at 21 = .ok (.lconst 0, 1) := by decide +kernel
theorem dX3_at_22 : decode cX3_at 22 = .ok (.lreturn, 1) := by decide +kernel
set_option maxRecDepth 20000 in
theorem ggX3_keep_X3_cut : GoodIn wsX3_keep wsX3_cut := goodIn_r _ [7, 8, 9, 10, 11] (by decide +kernel) (by decide +kernel)
set_option maxRecDepth 20000 in
theorem gX3_keep_X3_cut : GoodIn wsX3_keep (wsV RX3 31 RX3 yX3_cut wsX3_cut) := goodIn_app (goodIn_of _ (by decide +kernel)) ggX3_keep_X3_cut
theorem dX3_keep_0 : decode cX3_keep 0 = .ok (.iload_n 1, 1) := by decide +kernel
theorem dX3_keep_1 : decode cX3_keep 1 = .ok (.ifCond .lt 22, 3) := by decide +kernel
theorem dX3_keep_4 : decode cX3_keep 4 = .ok (.iload_n 1, 1) := by decide +kernel
theorem dX3_keep_5 : decode cX3_keep 5 = .ok (.aload_n 0, 1) := by decide +kernel
theorem dX3_keep_6 : decode cX3_keep 6 = .ok (.getfield 15, 3) := by decide +kernel
theorem dX3_keep_9 : decode cX3_keep 9 = .ok (.if_icmp .ge 14, 3) := by decide +kernel
theorem dX3_keep_12 : decode cX3_keep 12 = .ok (.aload_n 0, 1) := by decide +kernel
theorem dX3_keep_13 : decode cX3_keep 13 = .ok (.getfield 9, 3) := by decide +kernel
theorem dX3_keep_16 : decode cX3_keep 16 = .ok (.iload_n 1, 1) := by decide +kernel
theorem dX3_keep_17 : decode cX3_keep 17 = .ok (.aload_n 0, 1) := by decide +kernel
theorem dX3_keep_18 : decode cX3_keep 18 = .ok (.lload_n 2, 1) := by decide +kernel
theorem dX3_keep_19 : decode cX3_keep 19 = .ok (.invokevirtual 31, 3) := by decide +kernel
theorem dX3_keep_22 : decode cX3_keep 22 = .ok (.lastore, 1) := by decide +kernel
theorem dX3_keep_23 : decode cX3_keep 23 = .ok (.return_, 1) := by decide +kernel
theorem dX3_cut_0 : decode cX3_cut 0 = .ok (.aload_n 0, 1) := by decide +kernel
theorem dX3_cut_1 : decode cX3_cut 1 = .ok (.getfield 19, 3) := by decide +kernel
theorem dX3_cut_4 : decode cX3_cut 4 = .ok (.lookupswitch 37 #[(0, 28), (1, 33)], 28) := by decide +kernel
theorem dX3_cut_32 : decode cX3_cut 32 = .ok (.lload_n 1, 1) := by decide +kernel
theorem dX3_cut_33 : decode cX3_cut 33 = .ok (.l2i, 1) := by decide +kernel
theorem dX3_cut_34 : decode cX3_cut 34 = .ok (.i2b, 1) := by decide +kernel
theorem dX3_cut_35 : decode cX3_cut 35 = .ok (.i2l, 1) := by decide +kernel
theorem dX3_cut_36 : decode cX3_cut 36 = .ok (.lreturn, 1) := by decide +kernel
theorem dX3_cut_37 : decode cX3_cut 37 = .ok (.lload_n 1, 1) := by decide +kernel
theorem dX3_cut_38 : decode cX3_cut 38 = .ok (.l2i, 1) := by decide +kernel
theorem dX3_cut_39 : decode cX3_cut 39 = .ok (.i2l, 1) := by decide +kernel
theorem dX3_cut_40 : decode cX3_cut 40 = .ok (.lreturn, 1) := by decide +kernel
theorem dX3_cut_41 : decode cX3_cut 41 = .ok (.lload_n 1, 1) := by decide +kernel
theorem dX3_cut_42 : decode cX3_cut 42 = .ok (.lreturn, 1) := by decide +kernel
set_option maxRecDepth 20000 in
theorem ggX3_keepFrom_X3_reaches : GoodIn wsX3_keepFrom wsX3_reaches := goodIn_r _ [10, 11, 12, 13, 14] (by decide +kernel) (by decide +kernel)
set_option maxRecDepth 20000 in
theorem gX3_keepFrom_X3_reaches : GoodIn wsX3_keepFrom (wsV RX3 35 RX3 yX3_reaches wsX3_reaches) := goodIn_app (goodIn_of _ (by decide +kernel)) ggX3_keepFrom_X3_reaches
theorem dX3_keepFrom_0 : decode cX3_keepFrom 0 = .ok (.aload_n 2, 1) := by decide +kernel
theorem dX3_keepFrom_1 : decode cX3_keepFrom 1 = .ok (.iload_n 3, 1) := by decide +kernel
theorem dX3_keepFrom_2 : decode cX3_keepFrom 2 = .ok (.iload 4, 2) := by decide +kernel
theorem dX3_keepFrom_4 : decode cX3_keepFrom 4 = .ok (.invokevirtual 35, 3) := by decide +kernel
theorem dX3_keepFrom_7 : decode cX3_keepFrom 7 = .ok (.ifCond .eq 28, 3) := by decide +kernel
theorem dX3_keepFrom_10 : decode cX3_keepFrom 10 = .ok (.aload_n 0, 1) := by decide +kernel
theorem dX3_keepFrom_11 : decode cX3_keepFrom 11 = .ok (.iload_n 1, 1) := by decide +kernel
theorem dX3_keepFrom_12 : decode cX3_keepFrom 12 = .ok (.iload 4, 2) := by decide +kernel
theorem dX3_keepFrom_14 : decode cX3_keepFrom 14 = .ok (.invokevirtual 35, 3) := by decide +kernel
theorem dX3_keepFrom_17 : decode cX3_keepFrom 17 = .ok (.ifCond .eq 18, 3) := by decide +kernel
theorem dX3_keepFrom_20 : decode cX3_keepFrom 20 = .ok (.aload_n 2, 1) := by decide +kernel
theorem dX3_keepFrom_21 : decode cX3_keepFrom 21 = .ok (.getfield 9, 3) := by decide +kernel
theorem dX3_keepFrom_24 : decode cX3_keepFrom 24 = .ok (.iload_n 3, 1) := by decide +kernel
theorem dX3_keepFrom_25 : decode cX3_keepFrom 25 = .ok (.aload_n 0, 1) := by decide +kernel
theorem dX3_keepFrom_26 : decode cX3_keepFrom 26 = .ok (.getfield 9, 3) := by decide +kernel
theorem dX3_keepFrom_29 : decode cX3_keepFrom 29 = .ok (.iload_n 1, 1) := by decide +kernel
theorem dX3_keepFrom_30 : decode cX3_keepFrom 30 = .ok (.iload 4, 2) := by decide +kernel
theorem dX3_keepFrom_32 : decode cX3_keepFrom 32 = .ok (.invokestatic 39, 3) := by decide +kernel
theorem dX3_keepFrom_35 : decode cX3_keepFrom 35 = .ok (.return_, 1) := by decide +kernel
set_option maxRecDepth 20000 in
theorem ggX4_init_X1_init : GoodIn wsX4_init wsX1_init := goodIn_r _ [12, 13, 2, 3] (by decide +kernel) (by decide +kernel)
set_option maxRecDepth 20000 in
theorem gX4_init_X1_init_n17 : GoodIn wsX4_init (wsX1_init) := ggX4_init_X1_init
theorem dX4_init_0 : decode cX4_init 0 = .ok (.aload_n 0, 1) := by decide +kernel
theorem dX4_init_1 : decode cX4_init 1 = .ok (.invokespecial 3, 3) := by decide +kernel
theorem dX4_init_4 : decode cX4_init 4 = .ok (.aload_n 0, 1) := by decide +kernel
theorem dX4_init_5 : decode cX4_init 5 = .ok (.bipush 12, 2) := by decide +kernel
theorem dX4_init_7 : decode cX4_init 7 = .ok (.anewarray 9, 3) := by decide +kernel
theorem dX4_init_10 : decode cX4_init 10 = .ok (.putfield 11, 3) := by decide +kernel
theorem dX4_init_13 : decode cX4_init 13 = .ok (.aload_n 0, 1) := by decide +kernel
theorem dX4_init_14 : decode cX4_init 14 = .ok (.new 9, 3) := by decide +kernel
theorem dX4_init_17 : decode cX4_init 17 = .ok (.dup, 1) := by decide +kernel
theorem dX4_init_18 : decode cX4_init 18 = .ok (.invokespecial 17, 3) := by decide +kernel
theorem dX4_init_21 : decode cX4_init 21 = .ok (.putfield 18, 3) := by decide +kernel
theorem dX4_init_24 : decode cX4_init 24 = .ok (.aload_n 0, 1) := by decide +kernel
theorem dX4_init_25 : decode cX4_init 25 = .ok (.new 9, 3) := by decide +kernel
theorem dX4_init_28 : decode cX4_init 28 = .ok (.dup, 1) := by decide +kernel
theorem dX4_init_29 : decode cX4_init 29 = .ok (.invokespecial 17, 3) := by decide +kernel
theorem dX4_init_32 : decode cX4_init 32 = .ok (.putfield 22, 3) := by decide +kernel
theorem dX4_init_35 : decode cX4_init 35 = .ok (.aload_n 0, 1) := by decide +kernel
theorem dX4_init_36 : decode cX4_init 36 = .ok (.iconst 0, 1) := by decide +kernel
theorem dX4_init_37 : decode cX4_init 37 = .ok (.putfield 25, 3) := by decide +kernel
theorem dX4_init_40 : decode cX4_init 40 = .ok (.iconst 0, 1) := by decide +kernel
theorem dX4_init_41 : decode cX4_init 41 = .ok (.istore_n 1, 1) := by decide +kernel
theorem dX4_init_42 : decode cX4_init 42 = .ok (.iload_n 1, 1) := by decide +kernel
theorem dX4_init_43 : decode cX4_init 43 = .ok (.aload_n 0, 1) := by decide +kernel
theorem dX4_init_44 : decode cX4_init 44 = .ok (.getfield 11, 3) := by decide +kernel
theorem dX4_init_47 : decode cX4_init 47 = .ok (.arraylength, 1) := by decide +kernel
theorem dX4_init_48 : decode cX4_init 48 = .ok (.if_icmp .ge 22, 3) := by decide +kernel
theorem dX4_init_51 : decode cX4_init 51 = .ok (.aload_n 0, 1) := by decide +kernel
theorem dX4_init_52 : decode cX4_init 52 = .ok (.getfield 11, 3) := by decide +kernel
theorem dX4_init_55 : decode cX4_init 55 = .ok (.iload_n 1, 1) := by decide +kernel
theorem dX4_init_56 : decode cX4_init 56 = .ok (.new 9, 3) := by decide +kernel
theorem dX4_init_59 : decode cX4_init 59 = .ok (.dup, 1) := by decide +kernel
theorem dX4_init_60 : decode cX4_init 60 = .ok (.invokespecial 17, 3) := by decide +kernel
theorem dX4_init_63 : decode cX4_init 63 = .ok (.aastore, 1) := by decide +kernel
theorem dX4_init_64 : decode cX4_init 64 = .ok (.iinc 1 1, 3) := by decide +kernel
theorem dX4_init_67 : decode cX4_init 67 = .ok (.goto (-25), 3) := by decide +kernel
theorem dX4_init_70 : decode cX4_init 70 = .ok (.return_, 1) := by decide +kernel
theorem dX4_at_0 : decode cX4_at 0 = .ok (.iload_n 1, 1) := by decide +kernel
theorem dX4_at_1 : decode cX4_at 1 = .ok (.ifCond .lt 29, 3) := by decide +kernel
theorem dX4_at_4 : decode cX4_at 4 = .ok (.iload_n 1, 1) := by decide +kernel
theorem dX4_at_5 : decode cX4_at 5 = .ok (.aload_n 0, 1) := by decide +kernel
theorem dX4_at_6 : decode cX4_at 6 = .ok (.getfield 25, 3) := by decide +kernel
theorem dX4_at_9 : decode cX4_at 9 = .ok (.if_icmp .ge 21, 3) := by decide +kernel
theorem dX4_at_12 : decode cX4_at 12 = .ok (.iload_n 1, 1) := by decide +kernel
theorem dX4_at_13 : decode cX4_at 13 = .ok (.aload_n 0, 1) := by decide +kernel
theorem dX4_at_14 : decode cX4_at 14 = .ok (.getfield 11, 3) := by decide +kernel
theorem dX4_at_17 : decode cX4_at 17 = .ok (.arraylength, 1) := by decide +kernel
theorem dX4_at_18 : decode cX4_at 18 = .ok (.if_icmp .ge 12, 3) := by decide +kernel
theorem dX4_at_21 : decode cX4_at 21 = .ok (.aload_n 0, 1) := by decide +kernel
theorem dX4_at_22 : decode cX4_at 22 = .ok (.getfield 11, 3) := by decide +kernel
theorem dX4_at_25 : decode cX4_at 25 = .ok (.iload_n 1, 1) := by decide +kernel
theorem dX4_at_26 : decode cX4_at 26 = .ok (.aaload, 1) := by decide +kernel
theorem dX4_at_27 : decode cX4_at 27 = .ok (.goto 4, 3) := by decide +kernel
theorem dX4_at_30 : decode cX4_at 30 = .ok (.aconst_null, 1) := by decide +kernel
theorem dX4_at_31 : decode cX4_at 31 = .ok (.areturn, 1) := by decide +kernel
set_option maxRecDepth 20000 in
theorem ggX4_follow_X1_becomeLike : GoodIn wsX4_follow wsX1_becomeLike := goodIn_r _ [19, 20, 21, 22, 23, 24, 25, 26, 18, 27, 126, 127, 128, 129] (by decide +kernel) (by decide +kernel)
set_option maxRecDepth 20000 in
theorem gX4_follow_X1_becomeLike : GoodIn wsX4_follow (wsV RX4 29 RX1 yX1_becomeLike wsX1_becomeLike) := goodIn_app (goodIn_of _ (by decide +kernel)) ggX4_follow_X1_becomeLike
set_option maxRecDepth 20000 in
theorem ggX4_follow_X3_at : GoodIn wsX4_follow wsX3_at := goodIn_r _ [32, 33, 34, 130, 131, 132] (by decide +kernel) (by decide +kernel)
set_option maxRecDepth 20000 in
theorem gX4_follow_X3_at : GoodIn wsX4_follow (wsV RX4 44 RX3 yX3_at wsX3_at) := goodIn_app (goodIn_of _ (by decide +kernel)) ggX4_follow_X3_at
set_option maxRecDepth 20000 in
theorem ggX4_follow_X1_become : GoodIn wsX4_follow wsX1_become := goodIn_r _ [27, 20, 21, 22, 23, 126, 127, 128, 129] (by decide +kernel) (by decide +kernel)
set_option maxRecDepth 20000 in
theorem gX4_follow_X1_become : GoodIn wsX4_follow (wsV RX4 50 RX1 yX1_become wsX1_become) := goodIn_app (goodIn_of _ (by decide +kernel)) ggX4_follow_X1_become
set_option maxRecDepth 20000 in
theorem ggX4_follow_X2_findCommon : GoodIn wsX4_follow wsX2_findCommon := goodIn_r _ [40, 41, 42, 43, 44, 16, 17, 18, 19, 20, 21, 22, 23, 24, 25, 26, 27, 45, 46, 47, 39, 48, 49, 50, 51, 52, 53, 54, 55, 56, 57, 58, 59, 60, 61, 62, 63, 64, 65, 66, 67, 68, 69, 70, 71, 72, 73, 74, 75, 76, 77, 78, 79, 80, 81, 82, 83, 84, 85, 86, 87, 88, 89, 90, 91, 92, 93, 94, 95, 96, 97, 98, 99, 100, 101, 102, 103, 104, 105, 106, 107, 108, 109, 110, 111, 112, 118, 119, 120, 121, 122, 123, 124, 125, 126, 127, 128, 129] (by decide +kernel) (by decide +kernel)
set_option maxRecDepth 20000 in
theorem gX4_follow_X2_findCommon : GoodIn wsX4_follow (wsV RX4 54 RX2 yX2_findCommon wsX2_findCommon) := goodIn_app (goodIn_of _ (by decide +kernel)) ggX4_follow_X2_findCommon
set_option maxRecDepth 20000 in
theorem ggX4_follow_X2_splitBy : GoodIn wsX4_follow wsX2_splitBy := goodIn_r _ [48, 49, 50, 51, 43, 52, 53, 54, 18, 55, 20, 21, 22, 23, 56, 57, 58, 59, 60, 24, 25, 26, 27, 61, 62, 63, 64, 65, 66, 67, 68, 69, 70, 71, 72, 73, 74, 75, 76, 77, 78, 79, 80, 81, 82, 83, 84, 85, 86, 87, 88, 89, 90, 91, 92, 93, 94, 44, 16, 17, 19, 95, 96, 97, 98, 118, 119, 120, 121, 122, 123, 124, 125, 126, 127, 128, 129] (by decide +kernel) (by decide +kernel)
set_option maxRecDepth 20000 in
theorem gX4_follow_X2_splitBy : GoodIn wsX4_follow (wsV RX4 63 RX2 yX2_splitBy wsX2_splitBy) := goodIn_app (goodIn_of _ (by decide +kernel)) ggX4_follow_X2_splitBy
theorem dX4_follow_0 : decode cX4_follow 0 = .ok (.aload_n 0, 1) := by decide +kernel
theorem dX4_follow_1 : decode cX4_follow 1 = .ok (.getfield 22, 3) := by decide +kernel
theorem dX4_follow_4 : decode cX4_follow 4 = .ok (.aload_n 1, 1) := by decide +kernel
theorem dX4_follow_5 : decode cX4_follow 5 = .ok (.invokevirtual 29, 3) := by decide +kernel
theorem dX4_follow_8 : decode cX4_follow 8 = .ok (.aload_n 0, 1) := by decide +kernel
theorem dX4_follow_9 : decode cX4_follow 9 = .ok (.iconst 0, 1) := by decide +kernel
theorem dX4_follow_10 : decode cX4_follow 10 = .ok (.iload 4, 2) := by decide +kernel
theorem dX4_follow_12 : decode cX4_follow 12 = .ok (.aload_n 0, 1) := by decide +kernel
theorem dX4_follow_13 : decode cX4_follow 13 = .ok (.getfield 11, 3) := by decide +kernel
theorem dX4_follow_16 : decode cX4_follow 16 = .ok (.arraylength, 1) := by decide +kernel
theorem dX4_follow_17 : decode cX4_follow 17 = .ok (.invokestatic 33, 3) := by decide +kernel
theorem dX4_follow_20 : decode cX4_follow 20 = .ok (.invokestatic 39, 3) := by decide +kernel
theorem dX4_follow_23 : decode cX4_follow 23 = .ok (.putfield 25, 3) := by decide +kernel
theorem dX4_follow_26 : decode cX4_follow 26 = .ok (.iconst 0, 1) := by decide +kernel
theorem dX4_follow_27 : decode cX4_follow 27 = .ok (.istore 6, 2) := by decide +kernel
theorem dX4_follow_29 : decode cX4_follow 29 = .ok (.iload 6, 2) := by decide +kernel
theorem dX4_follow_31 : decode cX4_follow 31 = .ok (.aload_n 0, 1) := by decide +kernel
theorem dX4_follow_32 : decode cX4_follow 32 = .ok (.getfield 25, 3) := by decide +kernel
theorem dX4_follow_35 : decode cX4_follow 35 = .ok (.iconst 1, 1) := by decide +kernel
theorem dX4_follow_36 : decode cX4_follow 36 = .ok (.isub, 1) := by decide +kernel
theorem dX4_follow_37 : decode cX4_follow 37 = .ok (.if_icmp .ge 90, 3) := by decide +kernel
theorem dX4_follow_40 : decode cX4_follow 40 = .ok (.aload_n 0, 1) := by decide +kernel
theorem dX4_follow_41 : decode cX4_follow 41 = .ok (.getfield 18, 3) := by decide +kernel
theorem dX4_follow_44 : decode cX4_follow 44 = .ok (.ldc2_w 42, 3) := by decide +kernel
theorem dX4_follow_47 : decode cX4_follow 47 = .ok (.aload_n 2, 1) := by decide +kernel
theorem dX4_follow_48 : decode cX4_follow 48 = .ok (.iload_n 3, 1) := by decide +kernel
theorem dX4_follow_49 : decode cX4_follow 49 = .ok (.iload 6, 2) := by decide +kernel
theorem dX4_follow_51 : decode cX4_follow 51 = .ok (.iadd, 1) := by decide +kernel
theorem dX4_follow_52 : decode cX4_follow 52 = .ok (.invokevirtual 44, 3) := by decide +kernel
theorem dX4_follow_55 : decode cX4_follow 55 = .ok (.lmul, 1) := by decide +kernel
theorem dX4_follow_56 : decode cX4_follow 56 = .ok (.lconst 0, 1) := by decide +kernel
theorem dX4_follow_57 : decode cX4_follow 57 = .ok (.lconst 0, 1) := by decide +kernel
theorem dX4_follow_58 : decode cX4_follow 58 = .ok (.lconst 0, 1) := by decide +kernel
theorem dX4_follow_59 : decode cX4_follow 59 = .ok (.invokevirtual 50, 3) := by decide +kernel
theorem dX4_follow_62 : decode cX4_follow 62 = .ok (.aload 5, 2) := by decide +kernel
theorem dX4_follow_64 : decode cX4_follow 64 = .ok (.aload_n 0, 1) := by decide +kernel
theorem dX4_follow_65 : decode cX4_follow 65 = .ok (.getfield 18, 3) := by decide +kernel
theorem dX4_follow_68 : decode cX4_follow 68 = .ok (.aload_n 0, 1) := by decide +kernel
theorem dX4_follow_69 : decode cX4_follow 69 = .ok (.getfield 22, 3) := by decide +kernel
theorem dX4_follow_72 : decode cX4_follow 72 = .ok (.iconst 1, 1) := by decide +kernel
theorem dX4_follow_73 : decode cX4_follow 73 = .ok (.invokevirtual 54, 3) := by decide +kernel
theorem dX4_follow_76 : decode cX4_follow 76 = .ok (.aload_n 0, 1) := by decide +kernel
theorem dX4_follow_77 : decode cX4_follow 77 = .ok (.getfield 11, 3) := by decide +kernel
theorem dX4_follow_80 : decode cX4_follow 80 = .ok (.iload 6, 2) := by decide +kernel
theorem dX4_follow_82 : decode cX4_follow 82 = .ok (.aaload, 1) := by decide +kernel
theorem dX4_follow_83 : decode cX4_follow 83 = .ok (.aload 5, 2) := by decide +kernel
theorem dX4_follow_85 : decode cX4_follow 85 = .ok (.getfield 60, 3) := by decide +kernel
theorem dX4_follow_88 : decode cX4_follow 88 = .ok (.invokevirtual 29, 3) := by decide +kernel
theorem dX4_follow_91 : decode cX4_follow 91 = .ok (.aload 5, 2) := by decide +kernel
theorem dX4_follow_93 : decode cX4_follow 93 = .ok (.aload_n 0, 1) := by decide +kernel
theorem dX4_follow_94 : decode cX4_follow 94 = .ok (.getfield 22, 3) := by decide +kernel
theorem dX4_follow_97 : decode cX4_follow 97 = .ok (.aload_n 0, 1) := by decide +kernel
theorem dX4_follow_98 : decode cX4_follow 98 = .ok (.getfield 11, 3) := by decide +kernel
theorem dX4_follow_101 : decode cX4_follow 101 = .ok (.iload 6, 2) := by decide +kernel
theorem dX4_follow_103 : decode cX4_follow 103 = .ok (.aaload, 1) := by decide +kernel
theorem dX4_follow_104 : decode cX4_follow 104 = .ok (.iconst 1, 1) := by decide +kernel
theorem dX4_follow_105 : decode cX4_follow 105 = .ok (.invokevirtual 63, 3) := by decide +kernel
theorem dX4_follow_108 : decode cX4_follow 108 = .ok (.pop, 1) := by decide +kernel
theorem dX4_follow_109 : decode cX4_follow 109 = .ok (.aload_n 0, 1) := by decide +kernel
theorem dX4_follow_110 : decode cX4_follow 110 = .ok (.getfield 22, 3) := by decide +kernel
theorem dX4_follow_113 : decode cX4_follow 113 = .ok (.aload 5, 2) := by decide +kernel
theorem dX4_follow_115 : decode cX4_follow 115 = .ok (.getfield 67, 3) := by decide +kernel
theorem dX4_follow_118 : decode cX4_follow 118 = .ok (.invokevirtual 29, 3) := by decide +kernel
theorem dX4_follow_121 : decode cX4_follow 121 = .ok (.iinc 6 1, 3) := by decide +kernel
theorem dX4_follow_124 : decode cX4_follow 124 = .ok (.goto (-95), 3) := by decide +kernel
theorem dX4_follow_127 : decode cX4_follow 127 = .ok (.aload_n 0, 1) := by decide +kernel
theorem dX4_follow_128 : decode cX4_follow 128 = .ok (.getfield 25, 3) := by decide +kernel
theorem dX4_follow_131 : decode cX4_follow 131 = .ok (.ifCond .le 21, 3) := by decide +kernel
theorem dX4_follow_134 : decode cX4_follow 134 = .ok (.aload_n 0, 1) := by decide +kernel
theorem dX4_follow_135 : decode cX4_follow 135 = .ok (.getfield 11, 3) := by decide +kernel
theorem dX4_follow_138 : decode cX4_follow 138 = .ok (.aload_n 0, 1) := by decide +kernel
theorem dX4_follow_139 : decode cX4_follow 139 = .ok (.getfield 25, 3) := by decide +kernel
theorem dX4_follow_142 : decode cX4_follow 142 = .ok (.iconst 1, 1) := by decide +kernel
theorem dX4_follow_143 : decode cX4_follow 143 = .ok (.isub, 1) := by decide +kernel
theorem dX4_follow_144 : decode cX4_follow 144 = .ok (.aaload, 1) := by decide +kernel
theorem dX4_follow_145 : decode cX4_follow 145 = .ok (.aload_n 0, 1) := by decide +kernel
theorem dX4_follow_146 : decode cX4_follow 146 = .ok (.getfield 22, 3) := by decide +kernel
theorem dX4_follow_149 : decode cX4_follow 149 = .ok (.invokevirtual 29, 3) := by decide +kernel
theorem dX4_follow_152 : decode cX4_follow 152 = .ok (.return_, 1) := by decide +kernel
theorem dJ9_floorDiv_f86c9_0 : decode cJ9_floorDiv_f86c9 0 = .ok (.lload_n 0, 1) := by decide +kernel
theorem dJ9_floorDiv_f86c9_1 : decode cJ9_floorDiv_f86c9 1 = .ok (.lload_n 2, 1) := by decide +kernel
theorem dJ9_floorDiv_f86c9_2 : decode cJ9_floorDiv_f86c9 2 = .ok (.ldiv, 1) := by decide +kernel
theorem dJ9_floorDiv_f86c9_3 : decode cJ9_floorDiv_f86c9 3 = .ok (.lstore 4, 2) := by decide +kernel
theorem dJ9_floorDiv_f86c9_5 : decode cJ9_floorDiv_f86c9 5 = .ok (.lload_n 0, 1) := by decide +kernel
theorem dJ9_floorDiv_f86c9_6 : decode cJ9_floorDiv_f86c9 6 = .ok (.lload_n 2, 1) := by decide +kernel
theorem dJ9_floorDiv_f86c9_7 : decode cJ9_floorDiv_f86c9 7 = .ok (.lxor, 1) := by decide +kernel
theorem dJ9_floorDiv_f86c9_8 : decode cJ9_floorDiv_f86c9 8 = .ok (.lconst 0, 1) := by decide +kernel
theorem dJ9_floorDiv_f86c9_9 : decode cJ9_floorDiv_f86c9 9 = .ok (.lcmp, 1) := by decide +kernel
theorem dJ9_floorDiv_f86c9_10 : decode cJ9_floorDiv_f86c9 10 = .ok (.ifCond .ge 17, 3) := by decide +kernel
theorem dJ9_floorDiv_f86c9_13 : decode cJ9_floorDiv_f86c9 13 = .ok (.lload 4, 2) := by decide +kernel
theorem dJ9_floorDiv_f86c9_15 : decode cJ9_floorDiv_f86c9 15 = .ok (.lload_n 2, 1) := by decide +kernel
theorem dJ9_floorDiv_f86c9_16 : decode cJ9_floorDiv_f86c9 16 = .ok (.lmul, 1) := by decide +kernel
theorem dJ9_floorDiv_f86c9_17 : decode cJ9_floorDiv_f86c9 17 = .ok (.lload_n 0, 1) := by decide +kernel
theorem dJ9_floorDiv_f86c9_18 : decode cJ9_floorDiv_f86c9 18 = .ok (.lcmp, 1) := by decide +kernel
theorem dJ9_floorDiv_f86c9_19 : decode cJ9_floorDiv_f86c9 19 = .ok (.ifCond .eq 8, 3) := by decide +kernel
theorem dJ9_floorDiv_f86c9_22 : decode cJ9_floorDiv_f86c9 22 = .ok (.lload 4, 2) := by decide +kernel
theorem dJ9_floorDiv_f86c9_24 : decode cJ9_floorDiv_f86c9 24 = .ok (.lconst 1, 1) := by decide +kernel
theorem dJ9_floorDiv_f86c9_25 : decode cJ9_floorDiv_f86c9 25 = .ok (.lsub, 1) := by decide +kernel
theorem dJ9_floorDiv_f86c9_26 : decode cJ9_floorDiv_f86c9 26 = .ok (.lreturn, 1) := by decide +kernel
theorem dJ9_floorDiv_f86c9_27 : decode cJ9_floorDiv_f86c9 27 = .ok (.lload 4, 2) := by decide +kernel
theorem dJ9_floorDiv_f86c9_29 : decode cJ9_floorDiv_f86c9 29 = .ok (.lreturn, 1) := by decide +kernel
theorem dJ9_abs_067f4_0 : decode cJ9_abs_067f4 0 = .ok (.lload_n 0, 1) := by decide +kernel
theorem dJ9_abs_067f4_1 : decode cJ9_abs_067f4 1 = .ok (.lconst 0, 1) := by decide +kernel
theorem dJ9_abs_067f4_2 : decode cJ9_abs_067f4 2 = .ok (.lcmp, 1) := by decide +kernel
theorem dJ9_abs_067f4_3 : decode cJ9_abs_067f4 3 = .ok (.ifCond .ge 8, 3) := by decide +kernel
theorem dJ9_abs_067f4_6 : decode cJ9_abs_067f4 6 = .ok (.lload_n 0, 1) := by decide +kernel
theorem dJ9_abs_067f4_7 : decode cJ9_abs_067f4 7 = .ok (.lneg, 1) := by decide +kernel
theorem dJ9_abs_067f4_8 : decode cJ9_abs_067f4 8 = .ok (.goto 4, 3) := by decide +kernel
theorem dJ9_abs_067f4_11 : decode cJ9_abs_067f4 11 = .ok (.lload_n 0, 1) := by decide +kernel
theorem dJ9_abs_067f4_12 : decode cJ9_abs_067f4 12 = .ok (.lreturn, 1) := by decide +kernel
theorem dJ9_max_7cf53_0 : decode cJ9_max_7cf53 0 = .ok (.iload_n 0, 1) := by decide +kernel
theorem dJ9_max_7cf53_1 : decode cJ9_max_7cf53 1 = .ok (.iload_n 1, 1) := by decide +kernel
theorem dJ9_max_7cf53_2 : decode cJ9_max_7cf53 2 = .ok (.if_icmp .lt 7, 3) := by decide +kernel
theorem dJ9_max_7cf53_5 : decode cJ9_max_7cf53 5 = .ok (.iload_n 0, 1) := by decide +kernel
theorem dJ9_max_7cf53_6 : decode cJ9_max_7cf53 6 = .ok (.goto 4, 3) := by decide +kernel
theorem dJ9_max_7cf53_9 : decode cJ9_max_7cf53 9 = .ok (.iload_n 1, 1) := by decide +kernel
theorem dJ9_max_7cf53_10 : decode cJ9_max_7cf53 10 = .ok (.ireturn, 1) := by decide +kernel
theorem dJ9_min_7cf53_0 : decode cJ9_min_7cf53 0 = .ok (.iload_n 0, 1) := by decide +kernel
theorem dJ9_min_7cf53_1 : decode cJ9_min_7cf53 1 = .ok (.iload_n 1, 1) := by decide +kernel
theorem dJ9_min_7cf53_2 : decode cJ9_min_7cf53 2 = .ok (.if_icmp .gt 7, 3) := by decide +kernel
theorem dJ9_min_7cf53_5 : decode cJ9_min_7cf53 5 = .ok (.iload_n 0, 1) := by decide +kernel
theorem dJ9_min_7cf53_6 : decode cJ9_min_7cf53 6 = .ok (.goto 4, 3) := by decide +kernel
theorem dJ9_min_7cf53_9 : decode cJ9_min_7cf53 9 = .ok (.iload_n 1, 1) := by decide +kernel
theorem dJ9_min_7cf53_10 : decode cJ9_min_7cf53 10 = .ok (.ireturn, 1) := by decide +kernel

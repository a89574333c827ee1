set_option maxRecDepth 20000 in
theorem ggX5_init_X2_init : GoodIn wsX5_init wsX2_init := goodIn_r _ [26, 27, 2, 3, 28, 20, 21, 29, 30, 31, 32, 33, 34, 35, 36, 37, 38, 39, 81, 82, 83, 84, 68, 69, 70, 71, 72, 73, 74, 75] (by decide +kernel) (by decide +kernel)
set_option maxRecDepth 20000 in
theorem gX5_init_X2_init_n23 : GoodIn wsX5_init (wsX2_init) := ggX5_init_X2_init
set_option maxRecDepth 20000 in
theorem ggX5_init_X0_init : GoodIn wsX5_init wsX0_init := goodIn_r _ [42, 43, 2, 3, 44, 45, 76] (by decide +kernel) (by decide +kernel)
set_option maxRecDepth 20000 in
theorem gX5_init_X0_init : GoodIn wsX5_init (wsX0_init) := ggX5_init_X0_init
set_option maxRecDepth 20000 in
theorem ggX5_init_X4_init : GoodIn wsX5_init wsX4_init := goodIn_r _ [48, 49, 2, 3, 50, 51, 20, 21, 52, 53, 54, 37, 38, 39, 77, 78, 79, 80, 81, 82, 83, 84] (by decide +kernel) (by decide +kernel)
set_option maxRecDepth 20000 in
theorem gX5_init_X4_init : GoodIn wsX5_init (wsX4_init) := ggX5_init_X4_init
set_option maxRecDepth 20000 in
theorem ggX5_init_X1_init : GoodIn wsX5_init wsX1_init := goodIn_r _ [38, 39, 2, 3] (by decide +kernel) (by decide +kernel)
set_option maxRecDepth 20000 in
theorem gX5_init_X1_init_n42 : GoodIn wsX5_init (wsX1_init) := ggX5_init_X1_init
set_option maxRecDepth 20000 in
theorem ggX5_init_X3_init : GoodIn wsX5_init wsX3_init := goodIn_r _ [56, 57, 2, 3, 58, 59, 60, 61, 85, 86, 87] (by decide +kernel) (by decide +kernel)
set_option maxRecDepth 20000 in
theorem gX5_init_X3_init_n47 : GoodIn wsX5_init (wsX3_init) := ggX5_init_X3_init
theorem dX5_init_0 : decode cX5_init 0 = .ok (.aload_n 0, 1) := by decide +kernel
theorem dX5_init_1 : decode cX5_init 1 = .ok (.invokespecial 1, 3) := by decide +kernel
theorem dX5_init_4 : decode cX5_init 4 = .ok (.aload_n 0, 1) := by decide +kernel
theorem dX5_init_5 : decode cX5_init 5 = .ok (.bipush 16, 2) := by decide +kernel
theorem dX5_init_7 : decode cX5_init 7 = .ok (.anewarray 9, 3) := by decide +kernel
theorem dX5_init_10 : decode cX5_init 10 = .ok (.putfield 11, 3) := by decide +kernel
theorem dX5_init_13 : decode cX5_init 13 = .ok (.aload_n 0, 1) := by decide +kernel
theorem dX5_init_14 : decode cX5_init 14 = .ok (.bipush 6, 2) := by decide +kernel
theorem dX5_init_16 : decode cX5_init 16 = .ok (.anewarray 15, 3) := by decide +kernel
theorem dX5_init_19 : decode cX5_init 19 = .ok (.putfield 17, 3) := by decide +kernel
theorem dX5_init_22 : decode cX5_init 22 = .ok (.aload_n 0, 1) := by decide +kernel
theorem dX5_init_23 : decode cX5_init 23 = .ok (.new 21, 3) := by decide +kernel
theorem dX5_init_26 : decode cX5_init 26 = .ok (.dup, 1) := by decide +kernel
theorem dX5_init_27 : decode cX5_init 27 = .ok (.invokespecial 23, 3) := by decide +kernel
theorem dX5_init_30 : decode cX5_init 30 = .ok (.putfield 24, 3) := by decide +kernel
theorem dX5_init_33 : decode cX5_init 33 = .ok (.aload_n 0, 1) := by decide +kernel
theorem dX5_init_34 : decode cX5_init 34 = .ok (.new 28, 3) := by decide +kernel
theorem dX5_init_37 : decode cX5_init 37 = .ok (.dup, 1) := by decide +kernel
theorem dX5_init_38 : decode cX5_init 38 = .ok (.invokespecial 30, 3) := by decide +kernel
theorem dX5_init_41 : decode cX5_init 41 = .ok (.putfield 31, 3) := by decide +kernel
theorem dX5_init_44 : decode cX5_init 44 = .ok (.aload_n 0, 1) := by decide +kernel
theorem dX5_init_45 : decode cX5_init 45 = .ok (.new 35, 3) := by decide +kernel
theorem dX5_init_48 : decode cX5_init 48 = .ok (.dup, 1) := by decide +kernel
theorem dX5_init_49 : decode cX5_init 49 = .ok (.invokespecial 37, 3) := by decide +kernel
theorem dX5_init_52 : decode cX5_init 52 = .ok (.putfield 38, 3) := by decide +kernel
theorem dX5_init_55 : decode cX5_init 55 = .ok (.aload_n 0, 1) := by decide +kernel
theorem dX5_init_56 : decode cX5_init 56 = .ok (.new 9, 3) := by decide +kernel
theorem dX5_init_59 : decode cX5_init 59 = .ok (.dup, 1) := by decide +kernel
theorem dX5_init_60 : decode cX5_init 60 = .ok (.invokespecial 42, 3) := by decide +kernel
theorem dX5_init_63 : decode cX5_init 63 = .ok (.putfield 43, 3) := by decide +kernel
theorem dX5_init_66 : decode cX5_init 66 = .ok (.iconst 0, 1) := by decide +kernel
theorem dX5_init_67 : decode cX5_init 67 = .ok (.istore_n 1, 1) := by decide +kernel
theorem dX5_init_68 : decode cX5_init 68 = .ok (.iload_n 1, 1) := by decide +kernel
theorem dX5_init_69 : decode cX5_init 69 = .ok (.aload_n 0, 1) := by decide +kernel
theorem dX5_init_70 : decode cX5_init 70 = .ok (.getfield 11, 3) := by decide +kernel
theorem dX5_init_73 : decode cX5_init 73 = .ok (.arraylength, 1) := by decide +kernel
theorem dX5_init_74 : decode cX5_init 74 = .ok (.if_icmp .ge 22, 3) := by decide +kernel
theorem dX5_init_77 : decode cX5_init 77 = .ok (.aload_n 0, 1) := by decide +kernel
theorem dX5_init_78 : decode cX5_init 78 = .ok (.getfield 11, 3) := by decide +kernel
theorem dX5_init_81 : decode cX5_init 81 = .ok (.iload_n 1, 1) := by decide +kernel
theorem dX5_init_82 : decode cX5_init 82 = .ok (.new 9, 3) := by decide +kernel
theorem dX5_init_85 : decode cX5_init 85 = .ok (.dup, 1) := by decide +kernel
theorem dX5_init_86 : decode cX5_init 86 = .ok (.invokespecial 42, 3) := by decide +kernel
theorem dX5_init_89 : decode cX5_init 89 = .ok (.aastore, 1) := by decide +kernel
theorem dX5_init_90 : decode cX5_init 90 = .ok (.iinc 1 1, 3) := by decide +kernel
theorem dX5_init_93 : decode cX5_init 93 = .ok (.goto (-25), 3) := by decide +kernel
theorem dX5_init_96 : decode cX5_init 96 = .ok (.iconst 0, 1) := by decide +kernel
theorem dX5_init_97 : decode cX5_init 97 = .ok (.istore_n 1, 1) := by decide +kernel
theorem dX5_init_98 : decode cX5_init 98 = .ok (.iload_n 1, 1) := by decide +kernel
theorem dX5_init_99 : decode cX5_init 99 = .ok (.aload_n 0, 1) := by decide +kernel
theorem dX5_init_100 : decode cX5_init 100 = .ok (.getfield 17, 3) := by decide +kernel
theorem dX5_init_103 : decode cX5_init 103 = .ok (.arraylength, 1) := by decide +kernel
theorem dX5_init_104 : decode cX5_init 104 = .ok (.if_icmp .ge 22, 3) := by decide +kernel
theorem dX5_init_107 : decode cX5_init 107 = .ok (.aload_n 0, 1) := by decide +kernel
theorem dX5_init_108 : decode cX5_init 108 = .ok (.getfield 17, 3) := by decide +kernel
theorem dX5_init_111 : decode cX5_init 111 = .ok (.iload_n 1, 1) := by decide +kernel
theorem dX5_init_112 : decode cX5_init 112 = .ok (.new 15, 3) := by decide +kernel
theorem dX5_init_115 : decode cX5_init 115 = .ok (.dup, 1) := by decide +kernel
theorem dX5_init_116 : decode cX5_init 116 = .ok (.invokespecial 47, 3) := by decide +kernel
theorem dX5_init_119 : decode cX5_init 119 = .ok (.aastore, 1) := by decide +kernel
theorem dX5_init_120 : decode cX5_init 120 = .ok (.iinc 1 1, 3) := by decide +kernel
theorem dX5_init_123 : decode cX5_init 123 = .ok (.goto (-25), 3) := by decide +kernel
theorem dX5_init_126 : decode cX5_init 126 = .ok (.return_, 1) := by decide +kernel
set_option maxRecDepth 20000 in
theorem ggX5_sheet_X5_sheetAt : GoodIn wsX5_sheet wsX5_sheetAt := goodIn_r _ [5, 6, 22, 23, 24, 25, 26, 27] (by decide +kernel) (by decide +kernel)
set_option maxRecDepth 20000 in
theorem gX5_sheet_X5_sheetAt : GoodIn wsX5_sheet (wsV RX5 48 RX5 yX5_sheetAt wsX5_sheetAt) := goodIn_app (goodIn_of _ (by decide +kernel)) ggX5_sheet_X5_sheetAt
set_option maxRecDepth 20000 in
theorem ggX5_sheet_X3_renew : GoodIn wsX5_sheet wsX3_renew := goodIn_r _ [11, 12, 13, 14, 15, 16, 17, 18, 19, 20, 21, 28, 29, 30] (by decide +kernel) (by decide +kernel)
set_option maxRecDepth 20000 in
theorem gX5_sheet_X3_renew : GoodIn wsX5_sheet (wsV RX5 52 RX3 yX3_renew wsX3_renew) := goodIn_app (goodIn_of _ (by decide +kernel)) ggX5_sheet_X3_renew
theorem dX5_sheet_0 : decode cX5_sheet 0 = .ok (.aload_n 0, 1) := by decide +kernel
theorem dX5_sheet_1 : decode cX5_sheet 1 = .ok (.iload_n 1, 1) := by decide +kernel
theorem dX5_sheet_2 : decode cX5_sheet 2 = .ok (.invokevirtual 48, 3) := by decide +kernel
theorem dX5_sheet_5 : decode cX5_sheet 5 = .ok (.astore 4, 2) := by decide +kernel
theorem dX5_sheet_7 : decode cX5_sheet 7 = .ok (.aload 4, 2) := by decide +kernel
theorem dX5_sheet_9 : decode cX5_sheet 9 = .ok (.ifnull 13, 3) := by decide +kernel
theorem dX5_sheet_12 : decode cX5_sheet 12 = .ok (.iload_n 2, 1) := by decide +kernel
theorem dX5_sheet_13 : decode cX5_sheet 13 = .ok (.iconst (-1), 1) := by decide +kernel
theorem dX5_sheet_14 : decode cX5_sheet 14 = .ok (.if_icmp .lt 8, 3) := by decide +kernel
theorem dX5_sheet_17 : decode cX5_sheet 17 = .ok (.iload_n 2, 1) := by decide +kernel
theorem dX5_sheet_18 : decode cX5_sheet 18 = .ok (.iconst 2, 1) := by decide +kernel
theorem dX5_sheet_19 : decode cX5_sheet 19 = .ok (.if_icmp .le 5, 3) := by decide +kernel
theorem dX5_sheet_22 : decode cX5_sheet 22 = .ok (.iconst (-1), 1) := by decide +kernel
theorem dX5_sheet_23 : decode cX5_sheet 23 = .ok (.ireturn, 1) := by decide +kernel
theorem dX5_sheet_24 : decode cX5_sheet 24 = .ok (.iload_n 2, 1) := by decide +kernel
theorem dX5_sheet_25 : decode cX5_sheet 25 = .ok (.iconst (-1), 1) := by decide +kernel
theorem dX5_sheet_26 : decode cX5_sheet 26 = .ok (.if_icmp .ne 12, 3) := by decide +kernel
theorem dX5_sheet_29 : decode cX5_sheet 29 = .ok (.aload 4, 2) := by decide +kernel
theorem dX5_sheet_31 : decode cX5_sheet 31 = .ok (.iconst (-1), 1) := by decide +kernel
theorem dX5_sheet_32 : decode cX5_sheet 32 = .ok (.iconst 0, 1) := by decide +kernel
theorem dX5_sheet_33 : decode cX5_sheet 33 = .ok (.invokevirtual 52, 3) := by decide +kernel
theorem dX5_sheet_36 : decode cX5_sheet 36 = .ok (.iconst 0, 1) := by decide +kernel
theorem dX5_sheet_37 : decode cX5_sheet 37 = .ok (.ireturn, 1) := by decide +kernel
theorem dX5_sheet_38 : decode cX5_sheet 38 = .ok (.iload_n 3, 1) := by decide +kernel
theorem dX5_sheet_39 : decode cX5_sheet 39 = .ok (.bipush 16, 2) := by decide +kernel
theorem dX5_sheet_41 : decode cX5_sheet 41 = .ok (.if_icmp .le 5, 3) := by decide +kernel
theorem dX5_sheet_44 : decode cX5_sheet 44 = .ok (.iconst (-1), 1) := by decide +kernel
theorem dX5_sheet_45 : decode cX5_sheet 45 = .ok (.ireturn, 1) := by decide +kernel
theorem dX5_sheet_46 : decode cX5_sheet 46 = .ok (.iload_n 3, 1) := by decide +kernel
theorem dX5_sheet_47 : decode cX5_sheet 47 = .ok (.ifCond .ge 6, 3) := by decide +kernel
theorem dX5_sheet_50 : decode cX5_sheet 50 = .ok (.bipush (-13), 2) := by decide +kernel
theorem dX5_sheet_52 : decode cX5_sheet 52 = .ok (.ireturn, 1) := by decide +kernel
theorem dX5_sheet_53 : decode cX5_sheet 53 = .ok (.aload 4, 2) := by decide +kernel
theorem dX5_sheet_55 : decode cX5_sheet 55 = .ok (.iload_n 2, 1) := by decide +kernel
theorem dX5_sheet_56 : decode cX5_sheet 56 = .ok (.iload_n 3, 1) := by decide +kernel
theorem dX5_sheet_57 : decode cX5_sheet 57 = .ok (.invokevirtual 52, 3) := by decide +kernel
theorem dX5_sheet_60 : decode cX5_sheet 60 = .ok (.iconst 0, 1) := by decide +kernel
theorem dX5_sheet_61 : decode cX5_sheet 61 = .ok (.ireturn, 1) := by decide +kernel
set_option maxRecDepth 20000 in
theorem ggX5_put_X5_sheetAt : GoodIn wsX5_put wsX5_sheetAt := goodIn_r _ [5, 6, 30, 31, 32, 33, 34, 35] (by decide +kernel) (by decide +kernel)
set_option maxRecDepth 20000 in
theorem gX5_put_X5_sheetAt : GoodIn wsX5_put (wsV RX5 48 RX5 yX5_sheetAt wsX5_sheetAt) := goodIn_app (goodIn_of _ (by decide +kernel)) ggX5_put_X5_sheetAt
set_option maxRecDepth 20000 in
theorem ggX5_put_X5_refusalOf : GoodIn wsX5_put wsX5_refusalOf := goodIn_r _ [9, 10, 11, 12, 13, 14, 15, 16, 17, 18, 19, 20, 36, 37, 38] (by decide +kernel) (by decide +kernel)
set_option maxRecDepth 20000 in
theorem gX5_put_X5_refusalOf : GoodIn wsX5_put (va_wsS RX5 56 yX5_refusalOf wsX5_refusalOf) := goodIn_app (goodIn_of _ (by decide +kernel)) ggX5_put_X5_refusalOf
set_option maxRecDepth 20000 in
theorem ggX5_put_X3_keep : GoodIn wsX5_put wsX3_keep := goodIn_r _ [24, 20, 25, 26, 27, 28, 13, 29, 15, 36, 37, 38] (by decide +kernel) (by decide +kernel)
set_option maxRecDepth 20000 in
theorem gX5_put_X3_keep : GoodIn wsX5_put (wsV RX5 60 RX3 yX3_keep wsX3_keep) := goodIn_app (goodIn_of _ (by decide +kernel)) ggX5_put_X3_keep
theorem dX5_put_0 : decode cX5_put 0 = .ok (.aload_n 0, 1) := by decide +kernel
theorem dX5_put_1 : decode cX5_put 1 = .ok (.iload_n 1, 1) := by decide +kernel
theorem dX5_put_2 : decode cX5_put 2 = .ok (.invokevirtual 48, 3) := by decide +kernel
theorem dX5_put_5 : decode cX5_put 5 = .ok (.astore 5, 2) := by decide +kernel
theorem dX5_put_7 : decode cX5_put 7 = .ok (.aload 5, 2) := by decide +kernel
theorem dX5_put_9 : decode cX5_put 9 = .ok (.ifnonnull 5, 3) := by decide +kernel
theorem dX5_put_12 : decode cX5_put 12 = .ok (.iconst (-1), 1) := by decide +kernel
theorem dX5_put_13 : decode cX5_put 13 = .ok (.ireturn, 1) := by decide +kernel
theorem dX5_put_14 : decode cX5_put 14 = .ok (.aload 5, 2) := by decide +kernel
theorem dX5_put_16 : decode cX5_put 16 = .ok (.iload_n 2, 1) := by decide +kernel
theorem dX5_put_17 : decode cX5_put 17 = .ok (.iconst 1, 1) := by decide +kernel
theorem dX5_put_18 : decode cX5_put 18 = .ok (.invokestatic 56, 3) := by decide +kernel
theorem dX5_put_21 : decode cX5_put 21 = .ok (.istore 6, 2) := by decide +kernel
theorem dX5_put_23 : decode cX5_put 23 = .ok (.iload 6, 2) := by decide +kernel
theorem dX5_put_25 : decode cX5_put 25 = .ok (.ifCond .eq 6, 3) := by decide +kernel
theorem dX5_put_28 : decode cX5_put 28 = .ok (.iload 6, 2) := by decide +kernel
theorem dX5_put_30 : decode cX5_put 30 = .ok (.ireturn, 1) := by decide +kernel
theorem dX5_put_31 : decode cX5_put 31 = .ok (.aload 5, 2) := by decide +kernel
theorem dX5_put_33 : decode cX5_put 33 = .ok (.iload_n 2, 1) := by decide +kernel
theorem dX5_put_34 : decode cX5_put 34 = .ok (.lload_n 3, 1) := by decide +kernel
theorem dX5_put_35 : decode cX5_put 35 = .ok (.invokevirtual 60, 3) := by decide +kernel
theorem dX5_put_38 : decode cX5_put 38 = .ok (.iconst 0, 1) := by decide +kernel
theorem dX5_put_39 : decode cX5_put 39 = .ok (.ireturn, 1) := by decide +kernel
set_option maxRecDepth 20000 in
theorem ggX5_copy_X5_sheetAt : GoodIn wsX5_copy wsX5_sheetAt := goodIn_r _ [6, 7, 32, 33, 34, 35, 36, 37] (by decide +kernel) (by decide +kernel)
set_option maxRecDepth 20000 in
theorem gX5_copy_X5_sheetAt : GoodIn wsX5_copy (wsV RX5 48 RX5 yX5_sheetAt wsX5_sheetAt) := goodIn_app (goodIn_of _ (by decide +kernel)) ggX5_copy_X5_sheetAt
set_option maxRecDepth 20000 in
theorem ggX5_copy_X3_isMissing : GoodIn wsX5_copy wsX3_isMissing := goodIn_r _ [12, 13, 29, 30, 31] (by decide +kernel) (by decide +kernel)
set_option maxRecDepth 20000 in
theorem gX5_copy_X3_isMissing : GoodIn wsX5_copy (wsV RX5 64 RX3 yX3_isMissing wsX3_isMissing) := goodIn_app (goodIn_of _ (by decide +kernel)) ggX5_copy_X3_isMissing
set_option maxRecDepth 20000 in
theorem ggX5_copy_X3_reaches : GoodIn wsX5_copy wsX3_reaches := goodIn_r _ [17, 18, 29, 30, 31] (by decide +kernel) (by decide +kernel)
set_option maxRecDepth 20000 in
theorem gX5_copy_X3_reaches : GoodIn wsX5_copy (wsV RX5 72 RX3 yX3_reaches wsX3_reaches) := goodIn_app (goodIn_of _ (by decide +kernel)) ggX5_copy_X3_reaches
set_option maxRecDepth 20000 in
theorem ggX5_copy_X3_keepFrom : GoodIn wsX5_copy wsX3_keepFrom := goodIn_r _ [22, 23, 24, 25, 26, 27, 28, 15, 16, 11, 17, 18, 29, 30, 31] (by decide +kernel) (by decide +kernel)
set_option maxRecDepth 20000 in
theorem gX5_copy_X3_keepFrom : GoodIn wsX5_copy (wsV RX5 76 RX3 yX3_keepFrom wsX3_keepFrom) := goodIn_app (goodIn_of _ (by decide +kernel)) ggX5_copy_X3_keepFrom
theorem dX5_copy_0 : decode cX5_copy 0 = .ok (.aload_n 0, 1) := by decide +kernel
theorem dX5_copy_1 : decode cX5_copy 1 = .ok (.iload_n 1, 1) := by decide +kernel
theorem dX5_copy_2 : decode cX5_copy 2 = .ok (.invokevirtual 48, 3) := by decide +kernel
theorem dX5_copy_5 : decode cX5_copy 5 = .ok (.astore 6, 2) := by decide +kernel
theorem dX5_copy_7 : decode cX5_copy 7 = .ok (.aload_n 0, 1) := by decide +kernel
theorem dX5_copy_8 : decode cX5_copy 8 = .ok (.iload_n 3, 1) := by decide +kernel
theorem dX5_copy_9 : decode cX5_copy 9 = .ok (.invokevirtual 48, 3) := by decide +kernel
theorem dX5_copy_12 : decode cX5_copy 12 = .ok (.astore 7, 2) := by decide +kernel
theorem dX5_copy_14 : decode cX5_copy 14 = .ok (.aload 6, 2) := by decide +kernel
theorem dX5_copy_16 : decode cX5_copy 16 = .ok (.ifnull 8, 3) := by decide +kernel
theorem dX5_copy_19 : decode cX5_copy 19 = .ok (.aload 7, 2) := by decide +kernel
theorem dX5_copy_21 : decode cX5_copy 21 = .ok (.ifnonnull 5, 3) := by decide +kernel
theorem dX5_copy_24 : decode cX5_copy 24 = .ok (.iconst (-1), 1) := by decide +kernel
theorem dX5_copy_25 : decode cX5_copy 25 = .ok (.ireturn, 1) := by decide +kernel
theorem dX5_copy_26 : decode cX5_copy 26 = .ok (.aload 6, 2) := by decide +kernel
theorem dX5_copy_28 : decode cX5_copy 28 = .ok (.invokevirtual 64, 3) := by decide +kernel
theorem dX5_copy_31 : decode cX5_copy 31 = .ok (.ifCond .ne 11, 3) := by decide +kernel
theorem dX5_copy_34 : decode cX5_copy 34 = .ok (.aload 7, 2) := by decide +kernel
theorem dX5_copy_36 : decode cX5_copy 36 = .ok (.invokevirtual 64, 3) := by decide +kernel
theorem dX5_copy_39 : decode cX5_copy 39 = .ok (.ifCond .eq 6, 3) := by decide +kernel
theorem dX5_copy_42 : decode cX5_copy 42 = .ok (.bipush (-11), 2) := by decide +kernel
theorem dX5_copy_44 : decode cX5_copy 44 = .ok (.ireturn, 1) := by decide +kernel
theorem dX5_copy_45 : decode cX5_copy 45 = .ok (.aload 6, 2) := by decide +kernel
theorem dX5_copy_47 : decode cX5_copy 47 = .ok (.getfield 68, 3) := by decide +kernel
theorem dX5_copy_50 : decode cX5_copy 50 = .ok (.aload 7, 2) := by decide +kernel
theorem dX5_copy_52 : decode cX5_copy 52 = .ok (.getfield 68, 3) := by decide +kernel
theorem dX5_copy_55 : decode cX5_copy 55 = .ok (.if_icmp .eq 6, 3) := by decide +kernel
theorem dX5_copy_58 : decode cX5_copy 58 = .ok (.bipush (-14), 2) := by decide +kernel
theorem dX5_copy_60 : decode cX5_copy 60 = .ok (.ireturn, 1) := by decide +kernel
theorem dX5_copy_61 : decode cX5_copy 61 = .ok (.aload 6, 2) := by decide +kernel
theorem dX5_copy_63 : decode cX5_copy 63 = .ok (.iload_n 2, 1) := by decide +kernel
theorem dX5_copy_64 : decode cX5_copy 64 = .ok (.iload 5, 2) := by decide +kernel
theorem dX5_copy_66 : decode cX5_copy 66 = .ok (.invokevirtual 72, 3) := by decide +kernel
theorem dX5_copy_69 : decode cX5_copy 69 = .ok (.ifCond .eq 15, 3) := by decide +kernel
theorem dX5_copy_72 : decode cX5_copy 72 = .ok (.aload 7, 2) := by decide +kernel
theorem dX5_copy_74 : decode cX5_copy 74 = .ok (.iload 4, 2) := by decide +kernel
theorem dX5_copy_76 : decode cX5_copy 76 = .ok (.iload 5, 2) := by decide +kernel
theorem dX5_copy_78 : decode cX5_copy 78 = .ok (.invokevirtual 72, 3) := by decide +kernel
theorem dX5_copy_81 : decode cX5_copy 81 = .ok (.ifCond .ne 6, 3) := by decide +kernel
theorem dX5_copy_84 : decode cX5_copy 84 = .ok (.bipush (-12), 2) := by decide +kernel
theorem dX5_copy_86 : decode cX5_copy 86 = .ok (.ireturn, 1) := by decide +kernel
theorem dX5_copy_87 : decode cX5_copy 87 = .ok (.aload 7, 2) := by decide +kernel
theorem dX5_copy_89 : decode cX5_copy 89 = .ok (.iload 4, 2) := by decide +kernel
theorem dX5_copy_91 : decode cX5_copy 91 = .ok (.aload 6, 2) := by decide +kernel
theorem dX5_copy_93 : decode cX5_copy 93 = .ok (.iload_n 2, 1) := by decide +kernel
theorem dX5_copy_94 : decode cX5_copy 94 = .ok (.iload 5, 2) := by decide +kernel
theorem dX5_copy_96 : decode cX5_copy 96 = .ok (.invokevirtual 76, 3) := by decide +kernel
theorem dX5_copy_99 : decode cX5_copy 99 = .ok (.iconst 0, 1) := by decide +kernel
theorem dX5_copy_100 : decode cX5_copy 100 = .ok (.ireturn, 1) := by decide +kernel
set_option maxRecDepth 20000 in
theorem ggX5_read_X5_register : GoodIn wsX5_read wsX5_register := goodIn_r _ [6, 7, 59, 60, 61, 62, 63, 64] (by decide +kernel) (by decide +kernel)
set_option maxRecDepth 20000 in
theorem gX5_read_X5_register : GoodIn wsX5_read (wsV RX5 80 RX5 yX5_register wsX5_register) := goodIn_app (goodIn_of _ (by decide +kernel)) ggX5_read_X5_register
set_option maxRecDepth 20000 in
theorem ggX5_read_X5_sheetAt : GoodIn wsX5_read wsX5_sheetAt := goodIn_r _ [11, 12, 59, 60, 61, 62, 63, 64] (by decide +kernel) (by decide +kernel)
set_option maxRecDepth 20000 in
theorem gX5_read_X5_sheetAt : GoodIn wsX5_read (wsV RX5 48 RX5 yX5_sheetAt wsX5_sheetAt) := goodIn_app (goodIn_of _ (by decide +kernel)) ggX5_read_X5_sheetAt
set_option maxRecDepth 20000 in
theorem ggX5_read_X5_refusalOf : GoodIn wsX5_read wsX5_refusalOf := goodIn_r _ [15, 16, 17, 18, 19, 20, 21, 22, 23, 24, 25, 26, 65, 66, 67] (by decide +kernel) (by decide +kernel)
set_option maxRecDepth 20000 in
theorem gX5_read_X5_refusalOf : GoodIn wsX5_read (va_wsS RX5 56 yX5_refusalOf wsX5_refusalOf) := goodIn_app (goodIn_of _ (by decide +kernel)) ggX5_read_X5_refusalOf
set_option maxRecDepth 20000 in
theorem ggX5_read_X3_at : GoodIn wsX5_read wsX3_at := goodIn_r _ [30, 26, 31, 65, 66, 67] (by decide +kernel) (by decide +kernel)
set_option maxRecDepth 20000 in
theorem gX5_read_X3_at : GoodIn wsX5_read (wsV RX5 84 RX3 yX3_at wsX3_at) := goodIn_app (goodIn_of _ (by decide +kernel)) ggX5_read_X3_at
set_option maxRecDepth 20000 in
theorem ggX5_read_X1_become : GoodIn wsX5_read wsX1_become := goodIn_r _ [36, 37, 38, 39, 40, 68, 69, 70, 71] (by decide +kernel) (by decide +kernel)
set_option maxRecDepth 20000 in
theorem gX5_read_X1_become : GoodIn wsX5_read (wsV RX5 88 RX1 yX1_become wsX1_become) := goodIn_app (goodIn_of _ (by decide +kernel)) ggX5_read_X1_become
set_option maxRecDepth 20000 in
theorem ggX5_read_X1_isAllEvenOrAllOdd : GoodIn wsX5_read wsX1_isAllEvenOrAllOdd := goodIn_r _ [44, 37, 38, 39, 40, 68, 69, 70, 71] (by decide +kernel) (by decide +kernel)
set_option maxRecDepth 20000 in
theorem gX5_read_X1_isAllEvenOrAllOdd : GoodIn wsX5_read (wsV RX5 92 RX1 yX1_isAllEvenOrAllOdd wsX1_isAllEvenOrAllOdd) := goodIn_app (goodIn_of _ (by decide +kernel)) ggX5_read_X1_isAllEvenOrAllOdd
set_option maxRecDepth 20000 in
theorem ggX5_read_X1_isHigh : GoodIn wsX5_read wsX1_isHigh := goodIn_r _ [48, 37, 38, 39, 40, 49, 50, 35, 51, 52, 53, 68, 69, 70, 71] (by decide +kernel) (by decide +kernel)
set_option maxRecDepth 20000 in
theorem gX5_read_X1_isHigh : GoodIn wsX5_read (wsV RX5 95 RX1 yX1_isHigh wsX1_isHigh) := goodIn_app (goodIn_of _ (by decide +kernel)) ggX5_read_X1_isHigh
set_option maxRecDepth 20000 in
theorem ggX5_read_X1_becomeLike : GoodIn wsX5_read wsX1_becomeLike := goodIn_r _ [57, 37, 38, 39, 40, 58, 33, 34, 35, 36, 68, 69, 70, 71] (by decide +kernel) (by decide +kernel)
set_option maxRecDepth 20000 in
theorem gX5_read_X1_becomeLike : GoodIn wsX5_read (wsV RX5 98 RX1 yX1_becomeLike wsX1_becomeLike) := goodIn_app (goodIn_of _ (by decide +kernel)) ggX5_read_X1_becomeLike
theorem dX5_read_0 : decode cX5_read 0 = .ok (.aload_n 0, 1) := by decide +kernel
theorem dX5_read_1 : decode cX5_read 1 = .ok (.iload_n 1, 1) := by decide +kernel
theorem dX5_read_2 : decode cX5_read 2 = .ok (.invokevirtual 80, 3) := by decide +kernel
theorem dX5_read_5 : decode cX5_read 5 = .ok (.astore 4, 2) := by decide +kernel
theorem dX5_read_7 : decode cX5_read 7 = .ok (.aload_n 0, 1) := by decide +kernel
theorem dX5_read_8 : decode cX5_read 8 = .ok (.iload_n 2, 1) := by decide +kernel
theorem dX5_read_9 : decode cX5_read 9 = .ok (.invokevirtual 48, 3) := by decide +kernel
theorem dX5_read_12 : decode cX5_read 12 = .ok (.astore 5, 2) := by decide +kernel
theorem dX5_read_14 : decode cX5_read 14 = .ok (.aload 4, 2) := by decide +kernel
theorem dX5_read_16 : decode cX5_read 16 = .ok (.ifnull 8, 3) := by decide +kernel
theorem dX5_read_19 : decode cX5_read 19 = .ok (.aload 5, 2) := by decide +kernel
theorem dX5_read_21 : decode cX5_read 21 = .ok (.ifnonnull 5, 3) := by decide +kernel
theorem dX5_read_24 : decode cX5_read 24 = .ok (.iconst (-1), 1) := by decide +kernel
theorem dX5_read_25 : decode cX5_read 25 = .ok (.ireturn, 1) := by decide +kernel
theorem dX5_read_26 : decode cX5_read 26 = .ok (.aload 5, 2) := by decide +kernel
theorem dX5_read_28 : decode cX5_read 28 = .ok (.iload_n 3, 1) := by decide +kernel
theorem dX5_read_29 : decode cX5_read 29 = .ok (.iconst 4, 1) := by decide +kernel
theorem dX5_read_30 : decode cX5_read 30 = .ok (.invokestatic 56, 3) := by decide +kernel
theorem dX5_read_33 : decode cX5_read 33 = .ok (.istore 6, 2) := by decide +kernel
theorem dX5_read_35 : decode cX5_read 35 = .ok (.iload 6, 2) := by decide +kernel
theorem dX5_read_37 : decode cX5_read 37 = .ok (.ifCond .eq 6, 3) := by decide +kernel
theorem dX5_read_40 : decode cX5_read 40 = .ok (.iload 6, 2) := by decide +kernel
theorem dX5_read_42 : decode cX5_read 42 = .ok (.ireturn, 1) := by decide +kernel
theorem dX5_read_43 : decode cX5_read 43 = .ok (.aload_n 0, 1) := by decide +kernel
theorem dX5_read_44 : decode cX5_read 44 = .ok (.getfield 43, 3) := by decide +kernel
theorem dX5_read_47 : decode cX5_read 47 = .ok (.aload 5, 2) := by decide +kernel
theorem dX5_read_49 : decode cX5_read 49 = .ok (.iload_n 3, 1) := by decide +kernel
theorem dX5_read_50 : decode cX5_read 50 = .ok (.invokevirtual 84, 3) := by decide +kernel
theorem dX5_read_53 : decode cX5_read 53 = .ok (.aload 5, 2) := by decide +kernel
theorem dX5_read_55 : decode cX5_read 55 = .ok (.iload_n 3, 1) := by decide +kernel
theorem dX5_read_56 : decode cX5_read 56 = .ok (.iconst 1, 1) := by decide +kernel
theorem dX5_read_57 : decode cX5_read 57 = .ok (.iadd, 1) := by decide +kernel
theorem dX5_read_58 : decode cX5_read 58 = .ok (.invokevirtual 84, 3) := by decide +kernel
theorem dX5_read_61 : decode cX5_read 61 = .ok (.aload 5, 2) := by decide +kernel
theorem dX5_read_63 : decode cX5_read 63 = .ok (.iload_n 3, 1) := by decide +kernel
theorem dX5_read_64 : decode cX5_read 64 = .ok (.iconst 2, 1) := by decide +kernel
theorem dX5_read_65 : decode cX5_read 65 = .ok (.iadd, 1) := by decide +kernel
theorem dX5_read_66 : decode cX5_read 66 = .ok (.invokevirtual 84, 3) := by decide +kernel
theorem dX5_read_69 : decode cX5_read 69 = .ok (.aload 5, 2) := by decide +kernel
theorem dX5_read_71 : decode cX5_read 71 = .ok (.iload_n 3, 1) := by decide +kernel
theorem dX5_read_72 : decode cX5_read 72 = .ok (.iconst 3, 1) := by decide +kernel
theorem dX5_read_73 : decode cX5_read 73 = .ok (.iadd, 1) := by decide +kernel
theorem dX5_read_74 : decode cX5_read 74 = .ok (.invokevirtual 84, 3) := by decide +kernel
theorem dX5_read_77 : decode cX5_read 77 = .ok (.invokevirtual 88, 3) := by decide +kernel
theorem dX5_read_80 : decode cX5_read 80 = .ok (.aload_n 0, 1) := by decide +kernel
theorem dX5_read_81 : decode cX5_read 81 = .ok (.getfield 43, 3) := by decide +kernel
theorem dX5_read_84 : decode cX5_read 84 = .ok (.invokevirtual 92, 3) := by decide +kernel
theorem dX5_read_87 : decode cX5_read 87 = .ok (.ifCond .ne 6, 3) := by decide +kernel
theorem dX5_read_90 : decode cX5_read 90 = .ok (.bipush (-15), 2) := by decide +kernel
theorem dX5_read_92 : decode cX5_read 92 = .ok (.ireturn, 1) := by decide +kernel
theorem dX5_read_93 : decode cX5_read 93 = .ok (.aload_n 0, 1) := by decide +kernel
theorem dX5_read_94 : decode cX5_read 94 = .ok (.getfield 43, 3) := by decide +kernel
theorem dX5_read_97 : decode cX5_read 97 = .ok (.invokevirtual 95, 3) := by decide +kernel
theorem dX5_read_100 : decode cX5_read 100 = .ok (.ifCond .eq 6, 3) := by decide +kernel
theorem dX5_read_103 : decode cX5_read 103 = .ok (.bipush (-16), 2) := by decide +kernel
theorem dX5_read_105 : decode cX5_read 105 = .ok (.ireturn, 1) := by decide +kernel
theorem dX5_read_106 : decode cX5_read 106 = .ok (.aload 4, 2) := by decide +kernel
theorem dX5_read_108 : decode cX5_read 108 = .ok (.aload_n 0, 1) := by decide +kernel
theorem dX5_read_109 : decode cX5_read 109 = .ok (.getfield 43, 3) := by decide +kernel
theorem dX5_read_112 : decode cX5_read 112 = .ok (.invokevirtual 98, 3) := by decide +kernel
theorem dX5_read_115 : decode cX5_read 115 = .ok (.iconst 0, 1) := by decide +kernel
theorem dX5_read_116 : decode cX5_read 116 = .ok (.ireturn, 1) := by decide +kernel
set_option maxRecDepth 20000 in
theorem ggX5_write_X5_register : GoodIn wsX5_write wsX5_register := goodIn_r _ [9, 10, 43, 44, 45, 46, 47, 48] (by decide +kernel) (by decide +kernel)
set_option maxRecDepth 20000 in
theorem gX5_write_X5_register : GoodIn wsX5_write (wsV RX5 80 RX5 yX5_register wsX5_register) := goodIn_app (goodIn_of _ (by decide +kernel)) ggX5_write_X5_register
set_option maxRecDepth 20000 in
theorem ggX5_write_X5_sheetAt : GoodIn wsX5_write wsX5_sheetAt := goodIn_r _ [14, 15, 43, 44, 45, 46, 47, 48] (by decide +kernel) (by decide +kernel)
set_option maxRecDepth 20000 in
theorem gX5_write_X5_sheetAt : GoodIn wsX5_write (wsV RX5 48 RX5 yX5_sheetAt wsX5_sheetAt) := goodIn_app (goodIn_of _ (by decide +kernel)) ggX5_write_X5_sheetAt
set_option maxRecDepth 20000 in
theorem ggX5_write_X5_refusalOf : GoodIn wsX5_write wsX5_refusalOf := goodIn_r _ [18, 19, 20, 21, 22, 23, 24, 25, 26, 27, 28, 29, 49, 50, 51] (by decide +kernel) (by decide +kernel)
set_option maxRecDepth 20000 in
theorem gX5_write_X5_refusalOf : GoodIn wsX5_write (va_wsS RX5 56 yX5_refusalOf wsX5_refusalOf) := goodIn_app (goodIn_of _ (by decide +kernel)) ggX5_write_X5_refusalOf
set_option maxRecDepth 20000 in
theorem ggX5_write_X3_keep : GoodIn wsX5_write wsX3_keep := goodIn_r _ [33, 29, 34, 35, 36, 37, 22, 38, 24, 49, 50, 51] (by decide +kernel) (by decide +kernel)
set_option maxRecDepth 20000 in
theorem gX5_write_X3_keep : GoodIn wsX5_write (wsV RX5 60 RX3 yX3_keep wsX3_keep) := goodIn_app (goodIn_of _ (by decide +kernel)) ggX5_write_X3_keep
theorem dX5_write_0 : decode cX5_write 0 = .ok (.aload_n 0, 1) := by decide +kernel
theorem dX5_write_1 : decode cX5_write 1 = .ok (.iload_n 1, 1) := by decide +kernel
theorem dX5_write_2 : decode cX5_write 2 = .ok (.invokevirtual 80, 3) := by decide +kernel
theorem dX5_write_5 : decode cX5_write 5 = .ok (.astore 4, 2) := by decide +kernel
theorem dX5_write_7 : decode cX5_write 7 = .ok (.aload_n 0, 1) := by decide +kernel
theorem dX5_write_8 : decode cX5_write 8 = .ok (.iload_n 2, 1) := by decide +kernel
theorem dX5_write_9 : decode cX5_write 9 = .ok (.invokevirtual 48, 3) := by decide +kernel
theorem dX5_write_12 : decode cX5_write 12 = .ok (.astore 5, 2) := by decide +kernel
theorem dX5_write_14 : decode cX5_write 14 = .ok (.aload 4, 2) := by decide +kernel
theorem dX5_write_16 : decode cX5_write 16 = .ok (.ifnull 8, 3) := by decide +kernel
theorem dX5_write_19 : decode cX5_write 19 = .ok (.aload 5, 2) := by decide +kernel
theorem dX5_write_21 : decode cX5_write 21 = .ok (.ifnonnull 5, 3) := by decide +kernel
theorem dX5_write_24 : decode cX5_write 24 = .ok (.iconst (-1), 1) := by decide +kernel
theorem dX5_write_25 : decode cX5_write 25 = .ok (.ireturn, 1) := by decide +kernel
theorem dX5_write_26 : decode cX5_write 26 = .ok (.aload 5, 2) := by decide +kernel
theorem dX5_write_28 : decode cX5_write 28 = .ok (.iload_n 3, 1) := by decide +kernel
theorem dX5_write_29 : decode cX5_write 29 = .ok (.iconst 4, 1) := by decide +kernel
theorem dX5_write_30 : decode cX5_write 30 = .ok (.invokestatic 56, 3) := by decide +kernel
theorem dX5_write_33 : decode cX5_write 33 = .ok (.istore 6, 2) := by decide +kernel
theorem dX5_write_35 : decode cX5_write 35 = .ok (.iload 6, 2) := by decide +kernel
theorem dX5_write_37 : decode cX5_write 37 = .ok (.ifCond .eq 6, 3) := by decide +kernel
theorem dX5_write_40 : decode cX5_write 40 = .ok (.iload 6, 2) := by decide +kernel
theorem dX5_write_42 : decode cX5_write 42 = .ok (.ireturn, 1) := by decide +kernel
theorem dX5_write_43 : decode cX5_write 43 = .ok (.aload 5, 2) := by decide +kernel
theorem dX5_write_45 : decode cX5_write 45 = .ok (.iload_n 3, 1) := by decide +kernel
theorem dX5_write_46 : decode cX5_write 46 = .ok (.aload 4, 2) := by decide +kernel
theorem dX5_write_48 : decode cX5_write 48 = .ok (.getfield 102, 3) := by decide +kernel
theorem dX5_write_51 : decode cX5_write 51 = .ok (.invokevirtual 60, 3) := by decide +kernel
theorem dX5_write_54 : decode cX5_write 54 = .ok (.aload 5, 2) := by decide +kernel
theorem dX5_write_56 : decode cX5_write 56 = .ok (.iload_n 3, 1) := by decide +kernel
theorem dX5_write_57 : decode cX5_write 57 = .ok (.iconst 1, 1) := by decide +kernel
theorem dX5_write_58 : decode cX5_write 58 = .ok (.iadd, 1) := by decide +kernel
theorem dX5_write_59 : decode cX5_write 59 = .ok (.aload 4, 2) := by decide +kernel
theorem dX5_write_61 : decode cX5_write 61 = .ok (.getfield 106, 3) := by decide +kernel
theorem dX5_write_64 : decode cX5_write 64 = .ok (.invokevirtual 60, 3) := by decide +kernel
theorem dX5_write_67 : decode cX5_write 67 = .ok (.aload 5, 2) := by decide +kernel
theorem dX5_write_69 : decode cX5_write 69 = .ok (.iload_n 3, 1) := by decide +kernel
theorem dX5_write_70 : decode cX5_write 70 = .ok (.iconst 2, 1) := by decide +kernel
theorem dX5_write_71 : decode cX5_write 71 = .ok (.iadd, 1) := by decide +kernel
theorem dX5_write_72 : decode cX5_write 72 = .ok (.aload 4, 2) := by decide +kernel
theorem dX5_write_74 : decode cX5_write 74 = .ok (.getfield 109, 3) := by decide +kernel
theorem dX5_write_77 : decode cX5_write 77 = .ok (.invokevirtual 60, 3) := by decide +kernel
theorem dX5_write_80 : decode cX5_write 80 = .ok (.aload 5, 2) := by decide +kernel
theorem dX5_write_82 : decode cX5_write 82 = .ok (.iload_n 3, 1) := by decide +kernel
theorem dX5_write_83 : decode cX5_write 83 = .ok (.iconst 3, 1) := by decide +kernel
theorem dX5_write_84 : decode cX5_write 84 = .ok (.iadd, 1) := by decide +kernel
theorem dX5_write_85 : decode cX5_write 85 = .ok (.aload 4, 2) := by decide +kernel
theorem dX5_write_87 : decode cX5_write 87 = .ok (.getfield 112, 3) := by decide +kernel
theorem dX5_write_90 : decode cX5_write 90 = .ok (.invokevirtual 60, 3) := by decide +kernel
theorem dX5_write_93 : decode cX5_write 93 = .ok (.iconst 0, 1) := by decide +kernel
theorem dX5_write_94 : decode cX5_write 94 = .ok (.ireturn, 1) := by decide +kernel
set_option maxRecDepth 20000 in
theorem ggX5_set_X5_register : GoodIn wsX5_set wsX5_register := goodIn_r _ [6, 7, 38, 39, 40, 41, 42, 43] (by decide +kernel) (by decide +kernel)
set_option maxRecDepth 20000 in
theorem gX5_set_X5_register : GoodIn wsX5_set (wsV RX5 80 RX5 yX5_register wsX5_register) := goodIn_app (goodIn_of _ (by decide +kernel)) ggX5_set_X5_register
set_option maxRecDepth 20000 in
theorem ggX5_set_X1_become : GoodIn wsX5_set wsX1_become := goodIn_r _ [12, 13, 14, 15, 16, 44, 45, 46, 47] (by decide +kernel) (by decide +kernel)
set_option maxRecDepth 20000 in
theorem gX5_set_X1_become : GoodIn wsX5_set (wsV RX5 88 RX1 yX1_become wsX1_become) := goodIn_app (goodIn_of _ (by decide +kernel)) ggX5_set_X1_become
set_option maxRecDepth 20000 in
theorem ggX5_set_X1_isAllEvenOrAllOdd : GoodIn wsX5_set wsX1_isAllEvenOrAllOdd := goodIn_r _ [20, 13, 14, 15, 16, 44, 45, 46, 47] (by decide +kernel) (by decide +kernel)
set_option maxRecDepth 20000 in
theorem gX5_set_X1_isAllEvenOrAllOdd : GoodIn wsX5_set (wsV RX5 92 RX1 yX1_isAllEvenOrAllOdd wsX1_isAllEvenOrAllOdd) := goodIn_app (goodIn_of _ (by decide +kernel)) ggX5_set_X1_isAllEvenOrAllOdd
set_option maxRecDepth 20000 in
theorem ggX5_set_X5_hold : GoodIn wsX5_set wsX5_hold := goodIn_r _ [23, 24, 25, 26, 11, 27, 13, 14, 15, 16, 28, 29, 30, 31, 32, 33, 34, 35, 36, 37, 9, 10, 12, 44, 45, 46, 47] (by decide +kernel) (by decide +kernel)
set_option maxRecDepth 20000 in
theorem gX5_set_X5_hold : GoodIn wsX5_set (va_wsS RX5 115 yX5_hold wsX5_hold) := goodIn_app (goodIn_of _ (by decide +kernel)) ggX5_set_X5_hold
theorem dX5_set_0 : decode cX5_set 0 = .ok (.aload_n 0, 1) := by decide +kernel
theorem dX5_set_1 : decode cX5_set 1 = .ok (.iload_n 1, 1) := by decide +kernel
theorem dX5_set_2 : decode cX5_set 2 = .ok (.invokevirtual 80, 3) := by decide +kernel
theorem dX5_set_5 : decode cX5_set 5 = .ok (.astore 6, 2) := by decide +kernel
theorem dX5_set_7 : decode cX5_set 7 = .ok (.aload 6, 2) := by decide +kernel
theorem dX5_set_9 : decode cX5_set 9 = .ok (.ifnonnull 5, 3) := by decide +kernel
theorem dX5_set_12 : decode cX5_set 12 = .ok (.iconst (-1), 1) := by decide +kernel
theorem dX5_set_13 : decode cX5_set 13 = .ok (.ireturn, 1) := by decide +kernel
theorem dX5_set_14 : decode cX5_set 14 = .ok (.aload_n 0, 1) := by decide +kernel
theorem dX5_set_15 : decode cX5_set 15 = .ok (.getfield 43, 3) := by decide +kernel
theorem dX5_set_18 : decode cX5_set 18 = .ok (.iload_n 2, 1) := by decide +kernel
theorem dX5_set_19 : decode cX5_set 19 = .ok (.i2l, 1) := by decide +kernel
theorem dX5_set_20 : decode cX5_set 20 = .ok (.iload_n 3, 1) := by decide +kernel
theorem dX5_set_21 : decode cX5_set 21 = .ok (.i2l, 1) := by decide +kernel
theorem dX5_set_22 : decode cX5_set 22 = .ok (.iload 4, 2) := by decide +kernel
theorem dX5_set_24 : decode cX5_set 24 = .ok (.i2l, 1) := by decide +kernel
theorem dX5_set_25 : decode cX5_set 25 = .ok (.iload 5, 2) := by decide +kernel
theorem dX5_set_27 : decode cX5_set 27 = .ok (.i2l, 1) := by decide +kernel
theorem dX5_set_28 : decode cX5_set 28 = .ok (.invokevirtual 88, 3) := by decide +kernel
theorem dX5_set_31 : decode cX5_set 31 = .ok (.aload_n 0, 1) := by decide +kernel
theorem dX5_set_32 : decode cX5_set 32 = .ok (.getfield 43, 3) := by decide +kernel
theorem dX5_set_35 : decode cX5_set 35 = .ok (.invokevirtual 92, 3) := by decide +kernel
theorem dX5_set_38 : decode cX5_set 38 = .ok (.ifCond .ne 6, 3) := by decide +kernel
theorem dX5_set_41 : decode cX5_set 41 = .ok (.bipush (-2), 2) := by decide +kernel
theorem dX5_set_43 : decode cX5_set 43 = .ok (.ireturn, 1) := by decide +kernel
theorem dX5_set_44 : decode cX5_set 44 = .ok (.aload 6, 2) := by decide +kernel
theorem dX5_set_46 : decode cX5_set 46 = .ok (.aload_n 0, 1) := by decide +kernel
theorem dX5_set_47 : decode cX5_set 47 = .ok (.getfield 43, 3) := by decide +kernel
theorem dX5_set_50 : decode cX5_set 50 = .ok (.invokestatic 115, 3) := by decide +kernel
theorem dX5_set_53 : decode cX5_set 53 = .ok (.ireturn, 1) := by decide +kernel
set_option maxRecDepth 20000 in
theorem ggX5_part_X5_register : GoodIn wsX5_part wsX5_register := goodIn_r _ [10, 11, 55, 56, 57, 58, 59, 60] (by decide +kernel) (by decide +kernel)
set_option maxRecDepth 20000 in
theorem gX5_part_X5_register : GoodIn wsX5_part (wsV RX5 80 RX5 yX5_register wsX5_register) := goodIn_app (goodIn_of _ (by decide +kernel)) ggX5_part_X5_register
set_option maxRecDepth 20000 in
theorem ggX5_part_X1_norm : GoodIn wsX5_part wsX1_norm := goodIn_r _ [16, 17, 18, 19, 20, 21, 51, 52, 53, 54] (by decide +kernel) (by decide +kernel)
set_option maxRecDepth 20000 in
theorem gX5_part_X1_norm : GoodIn wsX5_part (wsV RX5 120 RX1 yX1_norm wsX1_norm) := goodIn_app (goodIn_of _ (by decide +kernel)) ggX5_part_X1_norm
set_option maxRecDepth 20000 in
theorem ggX5_part_X1_isPrimitive : GoodIn wsX5_part wsX1_isPrimitive := goodIn_r _ [25, 17, 18, 19, 20, 26, 27, 28, 15, 29, 30, 31, 32, 33, 51, 52, 53, 54] (by decide +kernel) (by decide +kernel)
set_option maxRecDepth 20000 in
theorem gX5_part_X1_isPrimitive : GoodIn wsX5_part (wsV RX5 124 RX1 yX1_isPrimitive wsX1_isPrimitive) := goodIn_app (goodIn_of _ (by decide +kernel)) ggX5_part_X1_isPrimitive
set_option maxRecDepth 20000 in
theorem ggX5_part_X5_unitNumber : GoodIn wsX5_part wsX5_unitNumber := goodIn_r _ [37, 38, 39, 40, 41, 15, 42, 43, 44, 45, 46, 17, 18, 19, 20, 47, 48, 49, 50, 55, 56, 57, 58, 59, 60, 51, 52, 53, 54] (by decide +kernel) (by decide +kernel)
set_option maxRecDepth 20000 in
theorem gX5_part_X5_unitNumber : GoodIn wsX5_part (wsV RX5 127 RX5 yX5_unitNumber wsX5_unitNumber) := goodIn_app (goodIn_of _ (by decide +kernel)) ggX5_part_X5_unitNumber
theorem dX5_part_0 : decode cX5_part 0 = .ok (.aload_n 0, 1) := by decide +kernel
theorem dX5_part_1 : decode cX5_part 1 = .ok (.iload_n 1, 1) := by decide +kernel
theorem dX5_part_2 : decode cX5_part 2 = .ok (.invokevirtual 80, 3) := by decide +kernel
theorem dX5_part_5 : decode cX5_part 5 = .ok (.astore_n 3, 1) := by decide +kernel
theorem dX5_part_6 : decode cX5_part 6 = .ok (.aload_n 3, 1) := by decide +kernel
theorem dX5_part_7 : decode cX5_part 7 = .ok (.ifnonnull 6, 3) := by decide +kernel
theorem dX5_part_10 : decode cX5_part 10 = .ok (.ldc 119, 2) := by decide +kernel
theorem dX5_part_12 : decode cX5_part 12 = .ok (.ireturn, 1) := by decide +kernel
theorem dX5_part_13 : decode cX5_part 13 = .ok (.iload_n 2, 1) := by decide +kernel
theorem dX5_part_14 : decode cX5_part 14 = .ok (.tableswitch 91 0 6 #[42, 48, 54, 60, 66, 72, 85], 42) := by decide +kernel
theorem dX5_part_56 : decode cX5_part 56 = .ok (.aload_n 3, 1) := by decide +kernel
theorem dX5_part_57 : decode cX5_part 57 = .ok (.getfield 102, 3) := by decide +kernel
theorem dX5_part_60 : decode cX5_part 60 = .ok (.l2i, 1) := by decide +kernel
theorem dX5_part_61 : decode cX5_part 61 = .ok (.ireturn, 1) := by decide +kernel
theorem dX5_part_62 : decode cX5_part 62 = .ok (.aload_n 3, 1) := by decide +kernel
theorem dX5_part_63 : decode cX5_part 63 = .ok (.getfield 106, 3) := by decide +kernel
theorem dX5_part_66 : decode cX5_part 66 = .ok (.l2i, 1) := by decide +kernel
theorem dX5_part_67 : decode cX5_part 67 = .ok (.ireturn, 1) := by decide +kernel
theorem dX5_part_68 : decode cX5_part 68 = .ok (.aload_n 3, 1) := by decide +kernel
theorem dX5_part_69 : decode cX5_part 69 = .ok (.getfield 109, 3) := by decide +kernel
theorem dX5_part_72 : decode cX5_part 72 = .ok (.l2i, 1) := by decide +kernel
theorem dX5_part_73 : decode cX5_part 73 = .ok (.ireturn, 1) := by decide +kernel
theorem dX5_part_74 : decode cX5_part 74 = .ok (.aload_n 3, 1) := by decide +kernel
theorem dX5_part_75 : decode cX5_part 75 = .ok (.getfield 112, 3) := by decide +kernel
theorem dX5_part_78 : decode cX5_part 78 = .ok (.l2i, 1) := by decide +kernel
theorem dX5_part_79 : decode cX5_part 79 = .ok (.ireturn, 1) := by decide +kernel
theorem dX5_part_80 : decode cX5_part 80 = .ok (.aload_n 3, 1) := by decide +kernel
theorem dX5_part_81 : decode cX5_part 81 = .ok (.invokevirtual 120, 3) := by decide +kernel
theorem dX5_part_84 : decode cX5_part 84 = .ok (.l2i, 1) := by decide +kernel
theorem dX5_part_85 : decode cX5_part 85 = .ok (.ireturn, 1) := by decide +kernel
theorem dX5_part_86 : decode cX5_part 86 = .ok (.aload_n 3, 1) := by decide +kernel
theorem dX5_part_87 : decode cX5_part 87 = .ok (.invokevirtual 124, 3) := by decide +kernel
theorem dX5_part_90 : decode cX5_part 90 = .ok (.ifCond .eq 7, 3) := by decide +kernel
theorem dX5_part_93 : decode cX5_part 93 = .ok (.iconst 1, 1) := by decide +kernel
theorem dX5_part_94 : decode cX5_part 94 = .ok (.goto 4, 3) := by decide +kernel
theorem dX5_part_97 : decode cX5_part 97 = .ok (.iconst 0, 1) := by decide +kernel
theorem dX5_part_98 : decode cX5_part 98 = .ok (.ireturn, 1) := by decide +kernel
theorem dX5_part_99 : decode cX5_part 99 = .ok (.aload_n 0, 1) := by decide +kernel
theorem dX5_part_100 : decode cX5_part 100 = .ok (.aload_n 3, 1) := by decide +kernel
theorem dX5_part_101 : decode cX5_part 101 = .ok (.invokevirtual 127, 3) := by decide +kernel
theorem dX5_part_104 : decode cX5_part 104 = .ok (.ireturn, 1) := by decide +kernel
theorem dX5_part_105 : decode cX5_part 105 = .ok (.ldc 119, 2) := by decide +kernel
theorem dX5_part_107 : decode cX5_part 107 = .ok (.ireturn, 1) := by decide +kernel
set_option maxRecDepth 20000 in
theorem ggX5_work_X5_register : GoodIn wsX5_work wsX5_register := goodIn_r _ [6, 7, 50, 51, 52, 53, 54, 55] (by decide +kernel) (by decide +kernel)
set_option maxRecDepth 20000 in
theorem gX5_work_X5_register : GoodIn wsX5_work (wsV RX5 80 RX5 yX5_register wsX5_register) := goodIn_app (goodIn_of _ (by decide +kernel)) ggX5_work_X5_register
set_option maxRecDepth 20000 in
theorem ggX5_work_X1_becomeSum : GoodIn wsX5_work wsX1_becomeSum := goodIn_r _ [12, 13, 14, 15, 16, 17, 18, 19, 11, 20, 56, 57, 58, 59] (by decide +kernel) (by decide +kernel)
set_option maxRecDepth 20000 in
theorem gX5_work_X1_becomeSum : GoodIn wsX5_work (wsV RX5 131 RX1 yX1_becomeSum wsX1_becomeSum) := goodIn_app (goodIn_of _ (by decide +kernel)) ggX5_work_X1_becomeSum
set_option maxRecDepth 20000 in
theorem ggX5_work_X1_becomeDifference : GoodIn wsX5_work wsX1_becomeDifference := goodIn_r _ [24, 13, 14, 15, 16, 17, 18, 19, 11, 20, 56, 57, 58, 59] (by decide +kernel) (by decide +kernel)
set_option maxRecDepth 20000 in
theorem gX5_work_X1_becomeDifference : GoodIn wsX5_work (wsV RX5 135 RX1 yX1_becomeDifference wsX1_becomeDifference) := goodIn_app (goodIn_of _ (by decide +kernel)) ggX5_work_X1_becomeDifference
set_option maxRecDepth 20000 in
theorem ggX5_work_X1_becomeProduct : GoodIn wsX5_work wsX1_becomeProduct := goodIn_r _ [28, 13, 14, 15, 16, 29, 17, 18, 19, 11, 20, 56, 57, 58, 59] (by decide +kernel) (by decide +kernel)
set_option maxRecDepth 20000 in
theorem gX5_work_X1_becomeProduct : GoodIn wsX5_work (wsV RX5 138 RX1 yX1_becomeProduct wsX1_becomeProduct) := goodIn_app (goodIn_of _ (by decide +kernel)) ggX5_work_X1_becomeProduct
set_option maxRecDepth 20000 in
theorem ggX5_work_X1_becomeMirror : GoodIn wsX5_work wsX1_becomeMirror := goodIn_r _ [33, 13, 14, 15, 16, 17, 18, 19, 11, 20, 56, 57, 58, 59] (by decide +kernel) (by decide +kernel)
set_option maxRecDepth 20000 in
theorem gX5_work_X1_becomeMirror : GoodIn wsX5_work (wsV RX5 141 RX1 yX1_becomeMirror wsX1_becomeMirror) := goodIn_app (goodIn_of _ (by decide +kernel)) ggX5_work_X1_becomeMirror
set_option maxRecDepth 20000 in
theorem ggX5_work_X5_hold : GoodIn wsX5_work wsX5_hold := goodIn_r _ [36, 37, 38, 39, 11, 40, 13, 14, 15, 16, 41, 42, 43, 44, 45, 46, 47, 48, 49, 17, 18, 19, 20, 56, 57, 58, 59] (by decide +kernel) (by decide +kernel)
set_option maxRecDepth 20000 in
theorem gX5_work_X5_hold : GoodIn wsX5_work (va_wsS RX5 115 yX5_hold wsX5_hold) := goodIn_app (goodIn_of _ (by decide +kernel)) ggX5_work_X5_hold
theorem dX5_work_0 : decode cX5_work 0 = .ok (.aload_n 0, 1) := by decide +kernel
theorem dX5_work_1 : decode cX5_work 1 = .ok (.iload_n 1, 1) := by decide +kernel
theorem dX5_work_2 : decode cX5_work 2 = .ok (.invokevirtual 80, 3) := by decide +kernel
theorem dX5_work_5 : decode cX5_work 5 = .ok (.astore 5, 2) := by decide +kernel
theorem dX5_work_7 : decode cX5_work 7 = .ok (.aload_n 0, 1) := by decide +kernel
theorem dX5_work_8 : decode cX5_work 8 = .ok (.iload_n 3, 1) := by decide +kernel
theorem dX5_work_9 : decode cX5_work 9 = .ok (.invokevirtual 80, 3) := by decide +kernel
theorem dX5_work_12 : decode cX5_work 12 = .ok (.astore 6, 2) := by decide +kernel
theorem dX5_work_14 : decode cX5_work 14 = .ok (.iload_n 2, 1) := by decide +kernel
theorem dX5_work_15 : decode cX5_work 15 = .ok (.iconst 3, 1) := by decide +kernel
theorem dX5_work_16 : decode cX5_work 16 = .ok (.if_icmp .ne 8, 3) := by decide +kernel
theorem dX5_work_19 : decode cX5_work 19 = .ok (.aload 6, 2) := by decide +kernel
theorem dX5_work_21 : decode cX5_work 21 = .ok (.goto 9, 3) := by decide +kernel
theorem dX5_work_24 : decode cX5_work 24 = .ok (.aload_n 0, 1) := by decide +kernel
theorem dX5_work_25 : decode cX5_work 25 = .ok (.iload 4, 2) := by decide +kernel
theorem dX5_work_27 : decode cX5_work 27 = .ok (.invokevirtual 80, 3) := by decide +kernel
theorem dX5_work_30 : decode cX5_work 30 = .ok (.astore 7, 2) := by decide +kernel
theorem dX5_work_32 : decode cX5_work 32 = .ok (.aload 5, 2) := by decide +kernel
theorem dX5_work_34 : decode cX5_work 34 = .ok (.ifnull 13, 3) := by decide +kernel
theorem dX5_work_37 : decode cX5_work 37 = .ok (.aload 6, 2) := by decide +kernel
theorem dX5_work_39 : decode cX5_work 39 = .ok (.ifnull 8, 3) := by decide +kernel
theorem dX5_work_42 : decode cX5_work 42 = .ok (.aload 7, 2) := by decide +kernel
theorem dX5_work_44 : decode cX5_work 44 = .ok (.ifnonnull 5, 3) := by decide +kernel
theorem dX5_work_47 : decode cX5_work 47 = .ok (.iconst (-1), 1) := by decide +kernel
theorem dX5_work_48 : decode cX5_work 48 = .ok (.ireturn, 1) := by decide +kernel
theorem dX5_work_49 : decode cX5_work 49 = .ok (.iload_n 2, 1) := by decide +kernel
theorem dX5_work_50 : decode cX5_work 50 = .ok (.tableswitch 84 0 3 #[30, 44, 58, 72], 30) := by decide +kernel
theorem dX5_work_80 : decode cX5_work 80 = .ok (.aload_n 0, 1) := by decide +kernel
theorem dX5_work_81 : decode cX5_work 81 = .ok (.getfield 43, 3) := by decide +kernel
theorem dX5_work_84 : decode cX5_work 84 = .ok (.aload 6, 2) := by decide +kernel
theorem dX5_work_86 : decode cX5_work 86 = .ok (.aload 7, 2) := by decide +kernel
theorem dX5_work_88 : decode cX5_work 88 = .ok (.invokevirtual 131, 3) := by decide +kernel
theorem dX5_work_91 : decode cX5_work 91 = .ok (.goto 45, 3) := by decide +kernel
theorem dX5_work_94 : decode cX5_work 94 = .ok (.aload_n 0, 1) := by decide +kernel
theorem dX5_work_95 : decode cX5_work 95 = .ok (.getfield 43, 3) := by decide +kernel
theorem dX5_work_98 : decode cX5_work 98 = .ok (.aload 6, 2) := by decide +kernel
theorem dX5_work_100 : decode cX5_work 100 = .ok (.aload 7, 2) := by decide +kernel
theorem dX5_work_102 : decode cX5_work 102 = .ok (.invokevirtual 135, 3) := by decide +kernel
theorem dX5_work_105 : decode cX5_work 105 = .ok (.goto 31, 3) := by decide +kernel
theorem dX5_work_108 : decode cX5_work 108 = .ok (.aload_n 0, 1) := by decide +kernel
theorem dX5_work_109 : decode cX5_work 109 = .ok (.getfield 43, 3) := by decide +kernel
theorem dX5_work_112 : decode cX5_work 112 = .ok (.aload 6, 2) := by decide +kernel
theorem dX5_work_114 : decode cX5_work 114 = .ok (.aload 7, 2) := by decide +kernel
theorem dX5_work_116 : decode cX5_work 116 = .ok (.invokevirtual 138, 3) := by decide +kernel
theorem dX5_work_119 : decode cX5_work 119 = .ok (.goto 17, 3) := by decide +kernel
theorem dX5_work_122 : decode cX5_work 122 = .ok (.aload_n 0, 1) := by decide +kernel
theorem dX5_work_123 : decode cX5_work 123 = .ok (.getfield 43, 3) := by decide +kernel
theorem dX5_work_126 : decode cX5_work 126 = .ok (.aload 6, 2) := by decide +kernel
theorem dX5_work_128 : decode cX5_work 128 = .ok (.invokevirtual 141, 3) := by decide +kernel
theorem dX5_work_131 : decode cX5_work 131 = .ok (.goto 5, 3) := by decide +kernel
theorem dX5_work_134 : decode cX5_work 134 = .ok (.iconst (-1), 1) := by decide +kernel
theorem dX5_work_135 : decode cX5_work 135 = .ok (.ireturn, 1) := by decide +kernel
theorem dX5_work_136 : decode cX5_work 136 = .ok (.aload 5, 2) := by decide +kernel
theorem dX5_work_138 : decode cX5_work 138 = .ok (.aload_n 0, 1) := by decide +kernel
theorem dX5_work_139 : decode cX5_work 139 = .ok (.getfield 43, 3) := by decide +kernel
theorem dX5_work_142 : decode cX5_work 142 = .ok (.invokestatic 115, 3) := by decide +kernel
theorem dX5_work_145 : decode cX5_work 145 = .ok (.ireturn, 1) := by decide +kernel
set_option maxRecDepth 20000 in
theorem ggX5_unit_X5_register : GoodIn wsX5_unit wsX5_register := goodIn_r _ [6, 7, 49, 50, 51, 52, 53, 54] (by decide +kernel) (by decide +kernel)
set_option maxRecDepth 20000 in
theorem gX5_unit_X5_register : GoodIn wsX5_unit (wsV RX5 80 RX5 yX5_register wsX5_register) := goodIn_app (goodIn_of _ (by decide +kernel)) ggX5_unit_X5_register
set_option maxRecDepth 20000 in
theorem ggX5_unit_X5_isSide : GoodIn wsX5_unit wsX5_isSide := goodIn_r _ [10] (by decide +kernel) (by decide +kernel)
set_option maxRecDepth 20000 in
theorem gX5_unit_X5_isSide : GoodIn wsX5_unit (va_wsS RX5 144 yX5_isSide wsX5_isSide) := goodIn_app (goodIn_of _ (by decide +kernel)) ggX5_unit_X5_isSide
set_option maxRecDepth 20000 in
theorem ggX5_unit_X1_becomeUnit : GoodIn wsX5_unit wsX1_becomeUnit := goodIn_r _ [15, 16, 17, 18, 14, 19, 20, 21, 22, 23, 55, 56, 57, 58] (by decide +kernel) (by decide +kernel)
set_option maxRecDepth 20000 in
theorem gX5_unit_X1_becomeUnit : GoodIn wsX5_unit (wsV RX5 148 RX1 yX1_becomeUnit wsX1_becomeUnit) := goodIn_app (goodIn_of _ (by decide +kernel)) ggX5_unit_X1_becomeUnit
set_option maxRecDepth 20000 in
theorem ggX5_unit_X1_becomeProductOn : GoodIn wsX5_unit wsX1_becomeProductOn := goodIn_r _ [27, 28, 29, 30, 14, 31, 20, 21, 22, 23, 32, 16, 17, 18, 19, 55, 56, 57, 58] (by decide +kernel) (by decide +kernel)
set_option maxRecDepth 20000 in
theorem gX5_unit_X1_becomeProductOn : GoodIn wsX5_unit (wsV RX5 152 RX1 yX1_becomeProductOn wsX1_becomeProductOn) := goodIn_app (goodIn_of _ (by decide +kernel)) ggX5_unit_X1_becomeProductOn
set_option maxRecDepth 20000 in
theorem ggX5_unit_X5_hold : GoodIn wsX5_unit wsX5_hold := goodIn_r _ [35, 36, 37, 38, 14, 39, 20, 21, 22, 23, 40, 41, 42, 43, 44, 45, 46, 47, 48, 16, 17, 18, 19, 55, 56, 57, 58] (by decide +kernel) (by decide +kernel)
set_option maxRecDepth 20000 in
theorem gX5_unit_X5_hold : GoodIn wsX5_unit (va_wsS RX5 115 yX5_hold wsX5_hold) := goodIn_app (goodIn_of _ (by decide +kernel)) ggX5_unit_X5_hold
theorem dX5_unit_0 : decode cX5_unit 0 = .ok (.aload_n 0, 1) := by decide +kernel
theorem dX5_unit_1 : decode cX5_unit 1 = .ok (.iload_n 1, 1) := by decide +kernel
theorem dX5_unit_2 : decode cX5_unit 2 = .ok (.invokevirtual 80, 3) := by decide +kernel
theorem dX5_unit_5 : decode cX5_unit 5 = .ok (.astore 5, 2) := by decide +kernel
theorem dX5_unit_7 : decode cX5_unit 7 = .ok (.aload_n 0, 1) := by decide +kernel
theorem dX5_unit_8 : decode cX5_unit 8 = .ok (.iload_n 2, 1) := by decide +kernel
theorem dX5_unit_9 : decode cX5_unit 9 = .ok (.invokevirtual 80, 3) := by decide +kernel
theorem dX5_unit_12 : decode cX5_unit 12 = .ok (.astore 6, 2) := by decide +kernel
theorem dX5_unit_14 : decode cX5_unit 14 = .ok (.aload 5, 2) := by decide +kernel
theorem dX5_unit_16 : decode cX5_unit 16 = .ok (.ifnull 26, 3) := by decide +kernel
theorem dX5_unit_19 : decode cX5_unit 19 = .ok (.aload 6, 2) := by decide +kernel
theorem dX5_unit_21 : decode cX5_unit 21 = .ok (.ifnull 21, 3) := by decide +kernel
theorem dX5_unit_24 : decode cX5_unit 24 = .ok (.iload_n 3, 1) := by decide +kernel
theorem dX5_unit_25 : decode cX5_unit 25 = .ok (.ifCond .lt 17, 3) := by decide +kernel
theorem dX5_unit_28 : decode cX5_unit 28 = .ok (.iload_n 3, 1) := by decide +kernel
theorem dX5_unit_29 : decode cX5_unit 29 = .ok (.bipush 24, 2) := by decide +kernel
theorem dX5_unit_31 : decode cX5_unit 31 = .ok (.if_icmp .ge 11, 3) := by decide +kernel
theorem dX5_unit_34 : decode cX5_unit 34 = .ok (.iload 4, 2) := by decide +kernel
theorem dX5_unit_36 : decode cX5_unit 36 = .ok (.invokestatic 144, 3) := by decide +kernel
theorem dX5_unit_39 : decode cX5_unit 39 = .ok (.ifCond .ne 5, 3) := by decide +kernel
theorem dX5_unit_42 : decode cX5_unit 42 = .ok (.iconst (-1), 1) := by decide +kernel
theorem dX5_unit_43 : decode cX5_unit 43 = .ok (.ireturn, 1) := by decide +kernel
theorem dX5_unit_44 : decode cX5_unit 44 = .ok (.aload_n 0, 1) := by decide +kernel
theorem dX5_unit_45 : decode cX5_unit 45 = .ok (.getfield 43, 3) := by decide +kernel
theorem dX5_unit_48 : decode cX5_unit 48 = .ok (.iload_n 3, 1) := by decide +kernel
theorem dX5_unit_49 : decode cX5_unit 49 = .ok (.invokevirtual 148, 3) := by decide +kernel
theorem dX5_unit_52 : decode cX5_unit 52 = .ok (.aload_n 0, 1) := by decide +kernel
theorem dX5_unit_53 : decode cX5_unit 53 = .ok (.getfield 43, 3) := by decide +kernel
theorem dX5_unit_56 : decode cX5_unit 56 = .ok (.iload 4, 2) := by decide +kernel
theorem dX5_unit_58 : decode cX5_unit 58 = .ok (.aload 6, 2) := by decide +kernel
theorem dX5_unit_60 : decode cX5_unit 60 = .ok (.aload_n 0, 1) := by decide +kernel
theorem dX5_unit_61 : decode cX5_unit 61 = .ok (.getfield 43, 3) := by decide +kernel
theorem dX5_unit_64 : decode cX5_unit 64 = .ok (.invokevirtual 152, 3) := by decide +kernel
theorem dX5_unit_67 : decode cX5_unit 67 = .ok (.aload 5, 2) := by decide +kernel
theorem dX5_unit_69 : decode cX5_unit 69 = .ok (.aload_n 0, 1) := by decide +kernel
theorem dX5_unit_70 : decode cX5_unit 70 = .ok (.getfield 43, 3) := by decide +kernel
theorem dX5_unit_73 : decode cX5_unit 73 = .ok (.invokestatic 115, 3) := by decide +kernel
theorem dX5_unit_76 : decode cX5_unit 76 = .ok (.ireturn, 1) := by decide +kernel
set_option maxRecDepth 20000 in
theorem ggX5_divide_X5_register : GoodIn wsX5_divide wsX5_register := goodIn_r _ [8, 9, 92, 93, 94, 95, 96, 97] (by decide +kernel) (by decide +kernel)
set_option maxRecDepth 20000 in
theorem gX5_divide_X5_register : GoodIn wsX5_divide (wsV RX5 80 RX5 yX5_register wsX5_register) := goodIn_app (goodIn_of _ (by decide +kernel)) ggX5_divide_X5_register
set_option maxRecDepth 20000 in
theorem ggX5_divide_X5_isSide : GoodIn wsX5_divide wsX5_isSide := goodIn_r _ [12] (by decide +kernel) (by decide +kernel)
set_option maxRecDepth 20000 in
theorem gX5_divide_X5_isSide : GoodIn wsX5_divide (va_wsS RX5 144 yX5_isSide wsX5_isSide) := goodIn_app (goodIn_of _ (by decide +kernel)) ggX5_divide_X5_isSide
set_option maxRecDepth 20000 in
theorem ggX5_divide_X2_splitBy : GoodIn wsX5_divide wsX2_splitBy := goodIn_r _ [17, 18, 19, 20, 21, 22, 23, 24, 25, 26, 27, 28, 29, 30, 31, 32, 33, 34, 35, 36, 37, 38, 39, 40, 41, 42, 43, 44, 45, 46, 47, 48, 49, 50, 51, 52, 53, 54, 55, 56, 57, 58, 59, 60, 61, 62, 63, 64, 65, 66, 67, 68, 69, 70, 71, 72, 73, 74, 75, 76, 77, 78, 79, 80, 81, 98, 99, 100, 101, 102, 103, 104, 105, 106, 107, 108, 109] (by decide +kernel) (by decide +kernel)
set_option maxRecDepth 20000 in
theorem gX5_divide_X2_splitBy : GoodIn wsX5_divide (wsV RX5 156 RX2 yX2_splitBy wsX2_splitBy) := goodIn_app (goodIn_of _ (by decide +kernel)) ggX5_divide_X2_splitBy
set_option maxRecDepth 20000 in
theorem ggX5_divide_X1_isHigh : GoodIn wsX5_divide wsX1_isHigh := goodIn_r _ [85, 27, 28, 29, 30, 86, 87, 25, 88, 89, 90, 106, 107, 108, 109] (by decide +kernel) (by decide +kernel)
set_option maxRecDepth 20000 in
theorem gX5_divide_X1_isHigh : GoodIn wsX5_divide (wsV RX5 95 RX1 yX1_isHigh wsX1_isHigh) := goodIn_app (goodIn_of _ (by decide +kernel)) ggX5_divide_X1_isHigh
set_option maxRecDepth 20000 in
theorem ggX5_divide_X1_becomeLike : GoodIn wsX5_divide wsX1_becomeLike := goodIn_r _ [77, 27, 28, 29, 30, 36, 37, 38, 25, 39, 106, 107, 108, 109] (by decide +kernel) (by decide +kernel)
set_option maxRecDepth 20000 in
theorem gX5_divide_X1_becomeLike : GoodIn wsX5_divide (wsV RX5 98 RX1 yX1_becomeLike wsX1_becomeLike) := goodIn_app (goodIn_of _ (by decide +kernel)) ggX5_divide_X1_becomeLike
theorem dX5_divide_0 : decode cX5_divide 0 = .ok (.aload_n 0, 1) := by decide +kernel
theorem dX5_divide_1 : decode cX5_divide 1 = .ok (.iload_n 1, 1) := by decide +kernel
theorem dX5_divide_2 : decode cX5_divide 2 = .ok (.invokevirtual 80, 3) := by decide +kernel
theorem dX5_divide_5 : decode cX5_divide 5 = .ok (.astore 6, 2) := by decide +kernel
theorem dX5_divide_7 : decode cX5_divide 7 = .ok (.aload_n 0, 1) := by decide +kernel
theorem dX5_divide_8 : decode cX5_divide 8 = .ok (.iload_n 2, 1) := by decide +kernel
theorem dX5_divide_9 : decode cX5_divide 9 = .ok (.invokevirtual 80, 3) := by decide +kernel
theorem dX5_divide_12 : decode cX5_divide 12 = .ok (.astore 7, 2) := by decide +kernel
theorem dX5_divide_14 : decode cX5_divide 14 = .ok (.aload_n 0, 1) := by decide +kernel
theorem dX5_divide_15 : decode cX5_divide 15 = .ok (.iload_n 3, 1) := by decide +kernel
theorem dX5_divide_16 : decode cX5_divide 16 = .ok (.invokevirtual 80, 3) := by decide +kernel
theorem dX5_divide_19 : decode cX5_divide 19 = .ok (.astore 8, 2) := by decide +kernel
theorem dX5_divide_21 : decode cX5_divide 21 = .ok (.aload_n 0, 1) := by decide +kernel
theorem dX5_divide_22 : decode cX5_divide 22 = .ok (.iload 4, 2) := by decide +kernel
theorem dX5_divide_24 : decode cX5_divide 24 = .ok (.invokevirtual 80, 3) := by decide +kernel
theorem dX5_divide_27 : decode cX5_divide 27 = .ok (.astore 9, 2) := by decide +kernel
theorem dX5_divide_29 : decode cX5_divide 29 = .ok (.aload 6, 2) := by decide +kernel
theorem dX5_divide_31 : decode cX5_divide 31 = .ok (.ifnull 31, 3) := by decide +kernel
theorem dX5_divide_34 : decode cX5_divide 34 = .ok (.aload 7, 2) := by decide +kernel
theorem dX5_divide_36 : decode cX5_divide 36 = .ok (.ifnull 26, 3) := by decide +kernel
theorem dX5_divide_39 : decode cX5_divide 39 = .ok (.aload 8, 2) := by decide +kernel
theorem dX5_divide_41 : decode cX5_divide 41 = .ok (.ifnull 21, 3) := by decide +kernel
theorem dX5_divide_44 : decode cX5_divide 44 = .ok (.aload 9, 2) := by decide +kernel
theorem dX5_divide_46 : decode cX5_divide 46 = .ok (.ifnull 16, 3) := by decide +kernel
theorem dX5_divide_49 : decode cX5_divide 49 = .ok (.iload_n 1, 1) := by decide +kernel
theorem dX5_divide_50 : decode cX5_divide 50 = .ok (.iload_n 2, 1) := by decide +kernel
theorem dX5_divide_51 : decode cX5_divide 51 = .ok (.if_icmp .eq 11, 3) := by decide +kernel
theorem dX5_divide_54 : decode cX5_divide 54 = .ok (.iload 5, 2) := by decide +kernel
theorem dX5_divide_56 : decode cX5_divide 56 = .ok (.invokestatic 144, 3) := by decide +kernel
theorem dX5_divide_59 : decode cX5_divide 59 = .ok (.ifCond .ne 5, 3) := by decide +kernel
theorem dX5_divide_62 : decode cX5_divide 62 = .ok (.iconst (-1), 1) := by decide +kernel
theorem dX5_divide_63 : decode cX5_divide 63 = .ok (.ireturn, 1) := by decide +kernel
theorem dX5_divide_64 : decode cX5_divide 64 = .ok (.aload_n 0, 1) := by decide +kernel
theorem dX5_divide_65 : decode cX5_divide 65 = .ok (.getfield 24, 3) := by decide +kernel
theorem dX5_divide_68 : decode cX5_divide 68 = .ok (.aload 8, 2) := by decide +kernel
theorem dX5_divide_70 : decode cX5_divide 70 = .ok (.aload 9, 2) := by decide +kernel
theorem dX5_divide_72 : decode cX5_divide 72 = .ok (.iload 5, 2) := by decide +kernel
theorem dX5_divide_74 : decode cX5_divide 74 = .ok (.invokevirtual 156, 3) := by decide +kernel
theorem dX5_divide_77 : decode cX5_divide 77 = .ok (.ifCond .ne 6, 3) := by decide +kernel
theorem dX5_divide_80 : decode cX5_divide 80 = .ok (.bipush (-2), 2) := by decide +kernel
theorem dX5_divide_82 : decode cX5_divide 82 = .ok (.ireturn, 1) := by decide +kernel
theorem dX5_divide_83 : decode cX5_divide 83 = .ok (.aload_n 0, 1) := by decide +kernel
theorem dX5_divide_84 : decode cX5_divide 84 = .ok (.getfield 24, 3) := by decide +kernel
theorem dX5_divide_87 : decode cX5_divide 87 = .ok (.getfield 160, 3) := by decide +kernel
theorem dX5_divide_90 : decode cX5_divide 90 = .ok (.invokevirtual 95, 3) := by decide +kernel
theorem dX5_divide_93 : decode cX5_divide 93 = .ok (.ifCond .ne 16, 3) := by decide +kernel
theorem dX5_divide_96 : decode cX5_divide 96 = .ok (.aload_n 0, 1) := by decide +kernel
theorem dX5_divide_97 : decode cX5_divide 97 = .ok (.getfield 24, 3) := by decide +kernel
theorem dX5_divide_100 : decode cX5_divide 100 = .ok (.getfield 163, 3) := by decide +kernel
theorem dX5_divide_103 : decode cX5_divide 103 = .ok (.invokevirtual 95, 3) := by decide +kernel
theorem dX5_divide_106 : decode cX5_divide 106 = .ok (.ifCond .eq 6, 3) := by decide +kernel
theorem dX5_divide_109 : decode cX5_divide 109 = .ok (.bipush (-3), 2) := by decide +kernel
theorem dX5_divide_111 : decode cX5_divide 111 = .ok (.ireturn, 1) := by decide +kernel
theorem dX5_divide_112 : decode cX5_divide 112 = .ok (.aload 6, 2) := by decide +kernel
theorem dX5_divide_114 : decode cX5_divide 114 = .ok (.aload_n 0, 1) := by decide +kernel
theorem dX5_divide_115 : decode cX5_divide 115 = .ok (.getfield 24, 3) := by decide +kernel
theorem dX5_divide_118 : decode cX5_divide 118 = .ok (.getfield 160, 3) := by decide +kernel
theorem dX5_divide_121 : decode cX5_divide 121 = .ok (.invokevirtual 98, 3) := by decide +kernel
theorem dX5_divide_124 : decode cX5_divide 124 = .ok (.aload 7, 2) := by decide +kernel
theorem dX5_divide_126 : decode cX5_divide 126 = .ok (.aload_n 0, 1) := by decide +kernel
theorem dX5_divide_127 : decode cX5_divide 127 = .ok (.getfield 24, 3) := by decide +kernel
theorem dX5_divide_130 : decode cX5_divide 130 = .ok (.getfield 163, 3) := by decide +kernel
theorem dX5_divide_133 : decode cX5_divide 133 = .ok (.invokevirtual 98, 3) := by decide +kernel
theorem dX5_divide_136 : decode cX5_divide 136 = .ok (.iconst 0, 1) := by decide +kernel
theorem dX5_divide_137 : decode cX5_divide 137 = .ok (.ireturn, 1) := by decide +kernel
set_option maxRecDepth 20000 in
theorem ggX5_divisor_X5_register : GoodIn wsX5_divisor wsX5_register := goodIn_r _ [7, 8, 122, 123, 124, 125, 126, 127] (by decide +kernel) (by decide +kernel)
set_option maxRecDepth 20000 in
theorem gX5_divisor_X5_register : GoodIn wsX5_divisor (wsV RX5 80 RX5 yX5_register wsX5_register) := goodIn_app (goodIn_of _ (by decide +kernel)) ggX5_divisor_X5_register
set_option maxRecDepth 20000 in
theorem ggX5_divisor_X5_isSide : GoodIn wsX5_divisor wsX5_isSide := goodIn_r _ [11] (by decide +kernel) (by decide +kernel)
set_option maxRecDepth 20000 in
theorem gX5_divisor_X5_isSide : GoodIn wsX5_divisor (va_wsS RX5 144 yX5_isSide wsX5_isSide) := goodIn_app (goodIn_of _ (by decide +kernel)) ggX5_divisor_X5_isSide
set_option maxRecDepth 20000 in
theorem ggX5_divisor_X1_isZero : GoodIn wsX5_divisor wsX1_isZero := goodIn_r _ [16, 17, 18, 19, 20, 136, 137, 138, 139] (by decide +kernel) (by decide +kernel)
set_option maxRecDepth 20000 in
theorem gX5_divisor_X1_isZero : GoodIn wsX5_divisor (wsV RX5 166 RX1 yX1_isZero wsX1_isZero) := goodIn_app (goodIn_of _ (by decide +kernel)) ggX5_divisor_X1_isZero
set_option maxRecDepth 20000 in
theorem ggX5_divisor_X2_findCommon : GoodIn wsX5_divisor wsX2_findCommon := goodIn_r _ [25, 26, 27, 28, 29, 30, 31, 15, 32, 17, 18, 19, 20, 33, 34, 35, 36, 37, 38, 39, 24, 40, 41, 42, 43, 44, 45, 46, 47, 48, 49, 50, 51, 52, 53, 54, 55, 56, 57, 58, 59, 60, 61, 62, 63, 64, 65, 66, 67, 68, 69, 70, 71, 72, 73, 74, 75, 76, 77, 78, 79, 80, 81, 82, 83, 84, 85, 86, 87, 88, 89, 90, 91, 92, 93, 94, 95, 96, 97, 98, 99, 100, 101, 102, 103, 104, 128, 129, 130, 131, 132, 133, 134, 135, 136, 137, 138, 139] (by decide +kernel) (by decide +kernel)
set_option maxRecDepth 20000 in
theorem gX5_divisor_X2_findCommon : GoodIn wsX5_divisor (wsV RX5 169 RX2 yX2_findCommon wsX2_findCommon) := goodIn_app (goodIn_of _ (by decide +kernel)) ggX5_divisor_X2_findCommon
set_option maxRecDepth 20000 in
theorem ggX5_divisor_X5_holdForNorm : GoodIn wsX5_divisor wsX5_holdForNorm := goodIn_r _ [107, 108, 109, 6, 110, 111, 112, 113, 15, 114, 17, 18, 19, 20, 115, 116, 117, 118, 119, 120, 30, 31, 32, 33, 34, 35, 36, 121, 45, 46, 47, 48, 136, 137, 138, 139] (by decide +kernel) (by decide +kernel)
set_option maxRecDepth 20000 in
theorem gX5_divisor_X5_holdForNorm : GoodIn wsX5_divisor (va_wsS RX5 176 yX5_holdForNorm wsX5_holdForNorm) := goodIn_app (goodIn_of _ (by decide +kernel)) ggX5_divisor_X5_holdForNorm
theorem dX5_divisor_0 : decode cX5_divisor 0 = .ok (.aload_n 0, 1) := by decide +kernel
theorem dX5_divisor_1 : decode cX5_divisor 1 = .ok (.iload_n 1, 1) := by decide +kernel
theorem dX5_divisor_2 : decode cX5_divisor 2 = .ok (.invokevirtual 80, 3) := by decide +kernel
theorem dX5_divisor_5 : decode cX5_divisor 5 = .ok (.astore 5, 2) := by decide +kernel
theorem dX5_divisor_7 : decode cX5_divisor 7 = .ok (.aload_n 0, 1) := by decide +kernel
theorem dX5_divisor_8 : decode cX5_divisor 8 = .ok (.iload_n 2, 1) := by decide +kernel
theorem dX5_divisor_9 : decode cX5_divisor 9 = .ok (.invokevirtual 80, 3) := by decide +kernel
theorem dX5_divisor_12 : decode cX5_divisor 12 = .ok (.astore 6, 2) := by decide +kernel
theorem dX5_divisor_14 : decode cX5_divisor 14 = .ok (.aload_n 0, 1) := by decide +kernel
theorem dX5_divisor_15 : decode cX5_divisor 15 = .ok (.iload_n 3, 1) := by decide +kernel
theorem dX5_divisor_16 : decode cX5_divisor 16 = .ok (.invokevirtual 80, 3) := by decide +kernel
theorem dX5_divisor_19 : decode cX5_divisor 19 = .ok (.astore 7, 2) := by decide +kernel
theorem dX5_divisor_21 : decode cX5_divisor 21 = .ok (.aload 5, 2) := by decide +kernel
theorem dX5_divisor_23 : decode cX5_divisor 23 = .ok (.ifnull 21, 3) := by decide +kernel
theorem dX5_divisor_26 : decode cX5_divisor 26 = .ok (.aload 6, 2) := by decide +kernel
theorem dX5_divisor_28 : decode cX5_divisor 28 = .ok (.ifnull 16, 3) := by decide +kernel
theorem dX5_divisor_31 : decode cX5_divisor 31 = .ok (.aload 7, 2) := by decide +kernel
theorem dX5_divisor_33 : decode cX5_divisor 33 = .ok (.ifnull 11, 3) := by decide +kernel
theorem dX5_divisor_36 : decode cX5_divisor 36 = .ok (.iload 4, 2) := by decide +kernel
theorem dX5_divisor_38 : decode cX5_divisor 38 = .ok (.invokestatic 144, 3) := by decide +kernel
theorem dX5_divisor_41 : decode cX5_divisor 41 = .ok (.ifCond .ne 5, 3) := by decide +kernel
theorem dX5_divisor_44 : decode cX5_divisor 44 = .ok (.iconst (-1), 1) := by decide +kernel
theorem dX5_divisor_45 : decode cX5_divisor 45 = .ok (.ireturn, 1) := by decide +kernel
theorem dX5_divisor_46 : decode cX5_divisor 46 = .ok (.aload 6, 2) := by decide +kernel
theorem dX5_divisor_48 : decode cX5_divisor 48 = .ok (.invokevirtual 166, 3) := by decide +kernel
theorem dX5_divisor_51 : decode cX5_divisor 51 = .ok (.ifCond .eq 14, 3) := by decide +kernel
theorem dX5_divisor_54 : decode cX5_divisor 54 = .ok (.aload 7, 2) := by decide +kernel
theorem dX5_divisor_56 : decode cX5_divisor 56 = .ok (.invokevirtual 166, 3) := by decide +kernel
theorem dX5_divisor_59 : decode cX5_divisor 59 = .ok (.ifCond .eq 6, 3) := by decide +kernel
theorem dX5_divisor_62 : decode cX5_divisor 62 = .ok (.bipush (-2), 2) := by decide +kernel
theorem dX5_divisor_64 : decode cX5_divisor 64 = .ok (.ireturn, 1) := by decide +kernel
theorem dX5_divisor_65 : decode cX5_divisor 65 = .ok (.aload_n 0, 1) := by decide +kernel
theorem dX5_divisor_66 : decode cX5_divisor 66 = .ok (.getfield 24, 3) := by decide +kernel
theorem dX5_divisor_69 : decode cX5_divisor 69 = .ok (.aload 6, 2) := by decide +kernel
theorem dX5_divisor_71 : decode cX5_divisor 71 = .ok (.aload 7, 2) := by decide +kernel
theorem dX5_divisor_73 : decode cX5_divisor 73 = .ok (.iload 4, 2) := by decide +kernel
theorem dX5_divisor_75 : decode cX5_divisor 75 = .ok (.invokevirtual 169, 3) := by decide +kernel
theorem dX5_divisor_78 : decode cX5_divisor 78 = .ok (.aload 5, 2) := by decide +kernel
theorem dX5_divisor_80 : decode cX5_divisor 80 = .ok (.aload_n 0, 1) := by decide +kernel
theorem dX5_divisor_81 : decode cX5_divisor 81 = .ok (.getfield 24, 3) := by decide +kernel
theorem dX5_divisor_84 : decode cX5_divisor 84 = .ok (.getfield 173, 3) := by decide +kernel
theorem dX5_divisor_87 : decode cX5_divisor 87 = .ok (.invokestatic 176, 3) := by decide +kernel
theorem dX5_divisor_90 : decode cX5_divisor 90 = .ok (.ireturn, 1) := by decide +kernel
set_option maxRecDepth 20000 in
theorem ggX5_like_X5_register : GoodIn wsX5_like wsX5_register := goodIn_r _ [6, 7, 37, 38, 39, 40, 41, 42] (by decide +kernel) (by decide +kernel)
set_option maxRecDepth 20000 in
theorem gX5_like_X5_register : GoodIn wsX5_like (wsV RX5 80 RX5 yX5_register wsX5_register) := goodIn_app (goodIn_of _ (by decide +kernel)) ggX5_like_X5_register
set_option maxRecDepth 20000 in
theorem ggX5_like_X5_isSide : GoodIn wsX5_like wsX5_isSide := goodIn_r _ [10] (by decide +kernel) (by decide +kernel)
set_option maxRecDepth 20000 in
theorem gX5_like_X5_isSide : GoodIn wsX5_like (va_wsS RX5 144 yX5_isSide wsX5_isSide) := goodIn_app (goodIn_of _ (by decide +kernel)) ggX5_like_X5_isSide
set_option maxRecDepth 20000 in
theorem ggX5_like_X1_becomeUnit : GoodIn wsX5_like wsX1_becomeUnit := goodIn_r _ [15, 16, 17, 18, 14, 19, 20, 21, 22, 23, 43, 44, 45, 46] (by decide +kernel) (by decide +kernel)
set_option maxRecDepth 20000 in
theorem gX5_like_X1_becomeUnit : GoodIn wsX5_like (wsV RX5 148 RX1 yX1_becomeUnit wsX1_becomeUnit) := goodIn_app (goodIn_of _ (by decide +kernel)) ggX5_like_X1_becomeUnit
set_option maxRecDepth 20000 in
theorem ggX5_like_X1_becomeProductOn : GoodIn wsX5_like wsX1_becomeProductOn := goodIn_r _ [27, 28, 29, 30, 14, 31, 20, 21, 22, 23, 32, 16, 17, 18, 19, 43, 44, 45, 46] (by decide +kernel) (by decide +kernel)
set_option maxRecDepth 20000 in
theorem gX5_like_X1_becomeProductOn : GoodIn wsX5_like (wsV RX5 152 RX1 yX1_becomeProductOn wsX1_becomeProductOn) := goodIn_app (goodIn_of _ (by decide +kernel)) ggX5_like_X1_becomeProductOn
set_option maxRecDepth 20000 in
theorem ggX5_like_X1_isSame : GoodIn wsX5_like wsX1_isSame := goodIn_r _ [36, 20, 21, 22, 23, 43, 44, 45, 46] (by decide +kernel) (by decide +kernel)
set_option maxRecDepth 20000 in
theorem gX5_like_X1_isSame : GoodIn wsX5_like (wsV RX5 179 RX1 yX1_isSame wsX1_isSame) := goodIn_app (goodIn_of _ (by decide +kernel)) ggX5_like_X1_isSame
theorem dX5_like_0 : decode cX5_like 0 = .ok (.aload_n 0, 1) := by decide +kernel
theorem dX5_like_1 : decode cX5_like 1 = .ok (.iload_n 1, 1) := by decide +kernel
theorem dX5_like_2 : decode cX5_like 2 = .ok (.invokevirtual 80, 3) := by decide +kernel
theorem dX5_like_5 : decode cX5_like 5 = .ok (.astore 4, 2) := by decide +kernel
theorem dX5_like_7 : decode cX5_like 7 = .ok (.aload_n 0, 1) := by decide +kernel
theorem dX5_like_8 : decode cX5_like 8 = .ok (.iload_n 2, 1) := by decide +kernel
theorem dX5_like_9 : decode cX5_like 9 = .ok (.invokevirtual 80, 3) := by decide +kernel
theorem dX5_like_12 : decode cX5_like 12 = .ok (.astore 5, 2) := by decide +kernel
theorem dX5_like_14 : decode cX5_like 14 = .ok (.aload 4, 2) := by decide +kernel
theorem dX5_like_16 : decode cX5_like 16 = .ok (.ifnull 15, 3) := by decide +kernel
theorem dX5_like_19 : decode cX5_like 19 = .ok (.aload 5, 2) := by decide +kernel
theorem dX5_like_21 : decode cX5_like 21 = .ok (.ifnull 10, 3) := by decide +kernel
theorem dX5_like_24 : decode cX5_like 24 = .ok (.iload_n 3, 1) := by decide +kernel
theorem dX5_like_25 : decode cX5_like 25 = .ok (.invokestatic 144, 3) := by decide +kernel
theorem dX5_like_28 : decode cX5_like 28 = .ok (.ifCond .ne 5, 3) := by decide +kernel
theorem dX5_like_31 : decode cX5_like 31 = .ok (.iconst (-1), 1) := by decide +kernel
theorem dX5_like_32 : decode cX5_like 32 = .ok (.ireturn, 1) := by decide +kernel
theorem dX5_like_33 : decode cX5_like 33 = .ok (.iconst 0, 1) := by decide +kernel
theorem dX5_like_34 : decode cX5_like 34 = .ok (.istore 6, 2) := by decide +kernel
theorem dX5_like_36 : decode cX5_like 36 = .ok (.iload 6, 2) := by decide +kernel
theorem dX5_like_38 : decode cX5_like 38 = .ok (.bipush 24, 2) := by decide +kernel
theorem dX5_like_40 : decode cX5_like 40 = .ok (.if_icmp .ge 47, 3) := by decide +kernel
theorem dX5_like_43 : decode cX5_like 43 = .ok (.aload_n 0, 1) := by decide +kernel
theorem dX5_like_44 : decode cX5_like 44 = .ok (.getfield 43, 3) := by decide +kernel
theorem dX5_like_47 : decode cX5_like 47 = .ok (.iload 6, 2) := by decide +kernel
theorem dX5_like_49 : decode cX5_like 49 = .ok (.invokevirtual 148, 3) := by decide +kernel
theorem dX5_like_52 : decode cX5_like 52 = .ok (.aload_n 0, 1) := by decide +kernel
theorem dX5_like_53 : decode cX5_like 53 = .ok (.getfield 43, 3) := by decide +kernel
theorem dX5_like_56 : decode cX5_like 56 = .ok (.iload_n 3, 1) := by decide +kernel
theorem dX5_like_57 : decode cX5_like 57 = .ok (.aload 4, 2) := by decide +kernel
theorem dX5_like_59 : decode cX5_like 59 = .ok (.aload_n 0, 1) := by decide +kernel
theorem dX5_like_60 : decode cX5_like 60 = .ok (.getfield 43, 3) := by decide +kernel
theorem dX5_like_63 : decode cX5_like 63 = .ok (.invokevirtual 152, 3) := by decide +kernel
theorem dX5_like_66 : decode cX5_like 66 = .ok (.aload_n 0, 1) := by decide +kernel
theorem dX5_like_67 : decode cX5_like 67 = .ok (.getfield 43, 3) := by decide +kernel
theorem dX5_like_70 : decode cX5_like 70 = .ok (.aload 5, 2) := by decide +kernel
theorem dX5_like_72 : decode cX5_like 72 = .ok (.invokevirtual 179, 3) := by decide +kernel
theorem dX5_like_75 : decode cX5_like 75 = .ok (.ifCond .eq 6, 3) := by decide +kernel
theorem dX5_like_78 : decode cX5_like 78 = .ok (.iload 6, 2) := by decide +kernel
theorem dX5_like_80 : decode cX5_like 80 = .ok (.ireturn, 1) := by decide +kernel
theorem dX5_like_81 : decode cX5_like 81 = .ok (.iinc 6 1, 3) := by decide +kernel
theorem dX5_like_84 : decode cX5_like 84 = .ok (.goto (-48), 3) := by decide +kernel
theorem dX5_like_87 : decode cX5_like 87 = .ok (.bipush (-4), 2) := by decide +kernel
theorem dX5_like_89 : decode cX5_like 89 = .ok (.ireturn, 1) := by decide +kernel
set_option maxRecDepth 20000 in
theorem ggX5_way_X5_register : GoodIn wsX5_way wsX5_register := goodIn_r _ [7, 8, 163, 164, 165, 166, 167, 168] (by decide +kernel) (by decide +kernel)
set_option maxRecDepth 20000 in
theorem gX5_way_X5_register : GoodIn wsX5_way (wsV RX5 80 RX5 yX5_register wsX5_register) := goodIn_app (goodIn_of _ (by decide +kernel)) ggX5_way_X5_register
set_option maxRecDepth 20000 in
theorem ggX5_way_X5_sheetAt : GoodIn wsX5_way wsX5_sheetAt := goodIn_r _ [12, 13, 163, 164, 165, 166, 167, 168] (by decide +kernel) (by decide +kernel)
set_option maxRecDepth 20000 in
theorem gX5_way_X5_sheetAt : GoodIn wsX5_way (wsV RX5 48 RX5 yX5_sheetAt wsX5_sheetAt) := goodIn_app (goodIn_of _ (by decide +kernel)) ggX5_way_X5_sheetAt
set_option maxRecDepth 20000 in
theorem ggX5_way_X3_isMissing : GoodIn wsX5_way wsX3_isMissing := goodIn_r _ [18, 19, 169, 170, 171] (by decide +kernel) (by decide +kernel)
set_option maxRecDepth 20000 in
theorem gX5_way_X3_isMissing : GoodIn wsX5_way (wsV RX5 64 RX3 yX3_isMissing wsX3_isMissing) := goodIn_app (goodIn_of _ (by decide +kernel)) ggX5_way_X3_isMissing
set_option maxRecDepth 20000 in
theorem ggX5_way_X3_reaches : GoodIn wsX5_way wsX3_reaches := goodIn_r _ [23, 24, 169, 170, 171] (by decide +kernel) (by decide +kernel)
set_option maxRecDepth 20000 in
theorem gX5_way_X3_reaches : GoodIn wsX5_way (wsV RX5 72 RX3 yX3_reaches wsX3_reaches) := goodIn_app (goodIn_of _ (by decide +kernel)) ggX5_way_X3_reaches
set_option maxRecDepth 20000 in
theorem ggX5_way_X1_isPrimitive : GoodIn wsX5_way wsX1_isPrimitive := goodIn_r _ [29, 30, 31, 32, 33, 34, 35, 36, 28, 37, 38, 39, 40, 41, 172, 173, 174, 175] (by decide +kernel) (by decide +kernel)
set_option maxRecDepth 20000 in
theorem gX5_way_X1_isPrimitive : GoodIn wsX5_way (wsV RX5 124 RX1 yX1_isPrimitive wsX1_isPrimitive) := goodIn_app (goodIn_of _ (by decide +kernel)) ggX5_way_X1_isPrimitive
set_option maxRecDepth 20000 in
theorem ggX5_way_X1_norm : GoodIn wsX5_way wsX1_norm := goodIn_r _ [45, 30, 31, 32, 33, 46, 172, 173, 174, 175] (by decide +kernel) (by decide +kernel)
set_option maxRecDepth 20000 in
theorem gX5_way_X1_norm : GoodIn wsX5_way (wsV RX5 120 RX1 yX1_norm wsX1_norm) := goodIn_app (goodIn_of _ (by decide +kernel)) ggX5_way_X1_norm
set_option maxRecDepth 20000 in
theorem ggX5_way_X5_arePrimesWithProduct : GoodIn wsX5_way wsX5_arePrimesWithProduct := goodIn_r _ [49, 50, 51, 52, 53, 17, 54, 24, 55, 56, 57, 6, 58, 59, 60, 61, 169, 170, 171] (by decide +kernel) (by decide +kernel)
set_option maxRecDepth 20000 in
theorem gX5_way_X5_arePrimesWithProduct : GoodIn wsX5_way (va_wsS RX5 183 yX5_arePrimesWithProduct wsX5_arePrimesWithProduct) := goodIn_app (goodIn_of _ (by decide +kernel)) ggX5_way_X5_arePrimesWithProduct
set_option maxRecDepth 20000 in
theorem ggX5_way_X4_follow : GoodIn wsX5_way wsX4_follow := goodIn_r _ [66, 67, 68, 69, 70, 40, 71, 72, 73, 74, 75, 76, 77, 78, 79, 80, 81, 82, 28, 83, 30, 31, 32, 33, 84, 85, 86, 87, 88, 52, 53, 17, 54, 24, 55, 89, 90, 91, 92, 93, 94, 95, 96, 97, 98, 99, 100, 101, 102, 103, 104, 105, 106, 43, 44, 45, 46, 107, 108, 109, 110, 111, 112, 113, 114, 115, 116, 117, 118, 34, 119, 120, 121, 122, 123, 124, 125, 126, 127, 128, 129, 130, 131, 132, 133, 134, 135, 136, 137, 138, 139, 140, 141, 142, 143, 144, 145, 146, 147, 148, 149, 150, 151, 152, 153, 154, 155, 156, 157, 158, 159, 160, 161, 162, 176, 177, 178, 179, 180, 181, 182, 183, 184, 185, 186, 187, 172, 173, 174, 175, 169, 170, 171] (by decide +kernel) (by decide +kernel)
set_option maxRecDepth 20000 in
theorem gX5_way_X4_follow : GoodIn wsX5_way (wsV RX5 187 RX4 yX4_follow wsX4_follow) := goodIn_app (goodIn_of _ (by decide +kernel)) ggX5_way_X4_follow
theorem dX5_way_0 : decode cX5_way 0 = .ok (.aload_n 0, 1) := by decide +kernel
theorem dX5_way_1 : decode cX5_way 1 = .ok (.iload_n 1, 1) := by decide +kernel
theorem dX5_way_2 : decode cX5_way 2 = .ok (.invokevirtual 80, 3) := by decide +kernel
theorem dX5_way_5 : decode cX5_way 5 = .ok (.astore 5, 2) := by decide +kernel
theorem dX5_way_7 : decode cX5_way 7 = .ok (.aload_n 0, 1) := by decide +kernel
theorem dX5_way_8 : decode cX5_way 8 = .ok (.iload_n 2, 1) := by decide +kernel
theorem dX5_way_9 : decode cX5_way 9 = .ok (.invokevirtual 48, 3) := by decide +kernel
theorem dX5_way_12 : decode cX5_way 12 = .ok (.astore 6, 2) := by decide +kernel
theorem dX5_way_14 : decode cX5_way 14 = .ok (.aload 5, 2) := by decide +kernel
theorem dX5_way_16 : decode cX5_way 16 = .ok (.ifnull 20, 3) := by decide +kernel
theorem dX5_way_19 : decode cX5_way 19 = .ok (.aload 6, 2) := by decide +kernel
theorem dX5_way_21 : decode cX5_way 21 = .ok (.ifnull 15, 3) := by decide +kernel
theorem dX5_way_24 : decode cX5_way 24 = .ok (.iload 4, 2) := by decide +kernel
theorem dX5_way_26 : decode cX5_way 26 = .ok (.ifCond .eq 10, 3) := by decide +kernel
theorem dX5_way_29 : decode cX5_way 29 = .ok (.iload 4, 2) := by decide +kernel
theorem dX5_way_31 : decode cX5_way 31 = .ok (.bipush 12, 2) := by decide +kernel
theorem dX5_way_33 : decode cX5_way 33 = .ok (.if_icmp .le 5, 3) := by decide +kernel
theorem dX5_way_36 : decode cX5_way 36 = .ok (.iconst (-1), 1) := by decide +kernel
theorem dX5_way_37 : decode cX5_way 37 = .ok (.ireturn, 1) := by decide +kernel
theorem dX5_way_38 : decode cX5_way 38 = .ok (.aload 6, 2) := by decide +kernel
theorem dX5_way_40 : decode cX5_way 40 = .ok (.invokevirtual 64, 3) := by decide +kernel
theorem dX5_way_43 : decode cX5_way 43 = .ok (.ifCond .eq 6, 3) := by decide +kernel
theorem dX5_way_46 : decode cX5_way 46 = .ok (.bipush (-11), 2) := by decide +kernel
theorem dX5_way_48 : decode cX5_way 48 = .ok (.ireturn, 1) := by decide +kernel
theorem dX5_way_49 : decode cX5_way 49 = .ok (.iload 4, 2) := by decide +kernel
theorem dX5_way_51 : decode cX5_way 51 = .ok (.ifCond .ge 6, 3) := by decide +kernel
theorem dX5_way_54 : decode cX5_way 54 = .ok (.bipush (-13), 2) := by decide +kernel
theorem dX5_way_56 : decode cX5_way 56 = .ok (.ireturn, 1) := by decide +kernel
theorem dX5_way_57 : decode cX5_way 57 = .ok (.aload 6, 2) := by decide +kernel
theorem dX5_way_59 : decode cX5_way 59 = .ok (.iload_n 3, 1) := by decide +kernel
theorem dX5_way_60 : decode cX5_way 60 = .ok (.iload 4, 2) := by decide +kernel
theorem dX5_way_62 : decode cX5_way 62 = .ok (.invokevirtual 72, 3) := by decide +kernel
theorem dX5_way_65 : decode cX5_way 65 = .ok (.ifCond .ne 6, 3) := by decide +kernel
theorem dX5_way_68 : decode cX5_way 68 = .ok (.bipush (-12), 2) := by decide +kernel
theorem dX5_way_70 : decode cX5_way 70 = .ok (.ireturn, 1) := by decide +kernel
theorem dX5_way_71 : decode cX5_way 71 = .ok (.aload 5, 2) := by decide +kernel
theorem dX5_way_73 : decode cX5_way 73 = .ok (.invokevirtual 124, 3) := by decide +kernel
theorem dX5_way_76 : decode cX5_way 76 = .ok (.ifCond .eq 19, 3) := by decide +kernel
theorem dX5_way_79 : decode cX5_way 79 = .ok (.aload 6, 2) := by decide +kernel
theorem dX5_way_81 : decode cX5_way 81 = .ok (.iload_n 3, 1) := by decide +kernel
theorem dX5_way_82 : decode cX5_way 82 = .ok (.iload 4, 2) := by decide +kernel
theorem dX5_way_84 : decode cX5_way 84 = .ok (.aload 5, 2) := by decide +kernel
theorem dX5_way_86 : decode cX5_way 86 = .ok (.invokevirtual 120, 3) := by decide +kernel
theorem dX5_way_89 : decode cX5_way 89 = .ok (.invokestatic 183, 3) := by decide +kernel
theorem dX5_way_92 : decode cX5_way 92 = .ok (.ifCond .ne 6, 3) := by decide +kernel
theorem dX5_way_95 : decode cX5_way 95 = .ok (.bipush (-2), 2) := by decide +kernel
theorem dX5_way_97 : decode cX5_way 97 = .ok (.ireturn, 1) := by decide +kernel
theorem dX5_way_98 : decode cX5_way 98 = .ok (.aload_n 0, 1) := by decide +kernel
theorem dX5_way_99 : decode cX5_way 99 = .ok (.getfield 38, 3) := by decide +kernel
theorem dX5_way_102 : decode cX5_way 102 = .ok (.aload 5, 2) := by decide +kernel
theorem dX5_way_104 : decode cX5_way 104 = .ok (.aload 6, 2) := by decide +kernel
theorem dX5_way_106 : decode cX5_way 106 = .ok (.iload_n 3, 1) := by decide +kernel
theorem dX5_way_107 : decode cX5_way 107 = .ok (.iload 4, 2) := by decide +kernel
theorem dX5_way_109 : decode cX5_way 109 = .ok (.aload_n 0, 1) := by decide +kernel
theorem dX5_way_110 : decode cX5_way 110 = .ok (.getfield 24, 3) := by decide +kernel
theorem dX5_way_113 : decode cX5_way 113 = .ok (.invokevirtual 187, 3) := by decide +kernel
theorem dX5_way_116 : decode cX5_way 116 = .ok (.iload 4, 2) := by decide +kernel
theorem dX5_way_118 : decode cX5_way 118 = .ok (.ireturn, 1) := by decide +kernel
set_option maxRecDepth 20000 in
theorem ggX5_factor_X5_register : GoodIn wsX5_factor wsX5_register := goodIn_r _ [6, 7, 48, 49, 50, 51, 52, 53] (by decide +kernel) (by decide +kernel)
set_option maxRecDepth 20000 in
theorem gX5_factor_X5_register : GoodIn wsX5_factor (wsV RX5 80 RX5 yX5_register wsX5_register) := goodIn_app (goodIn_of _ (by decide +kernel)) ggX5_factor_X5_register
set_option maxRecDepth 20000 in
theorem ggX5_factor_X4_at : GoodIn wsX5_factor wsX4_at := goodIn_r _ [12, 13, 14, 54, 55, 56, 57] (by decide +kernel) (by decide +kernel)
set_option maxRecDepth 20000 in
theorem gX5_factor_X4_at : GoodIn wsX5_factor (wsV RX5 191 RX4 yX4_at wsX4_at) := goodIn_app (goodIn_of _ (by decide +kernel)) ggX5_factor_X4_at
set_option maxRecDepth 20000 in
theorem ggX5_factor_X5_holdForNorm : GoodIn wsX5_factor wsX5_holdForNorm := goodIn_r _ [17, 18, 19, 5, 20, 21, 22, 23, 24, 25, 26, 27, 28, 29, 30, 31, 32, 33, 34, 35, 36, 37, 38, 39, 40, 41, 42, 43, 44, 45, 46, 47, 58, 59, 60, 61] (by decide +kernel) (by decide +kernel)
set_option maxRecDepth 20000 in
theorem gX5_factor_X5_holdForNorm : GoodIn wsX5_factor (va_wsS RX5 176 yX5_holdForNorm wsX5_holdForNorm) := goodIn_app (goodIn_of _ (by decide +kernel)) ggX5_factor_X5_holdForNorm
theorem dX5_factor_0 : decode cX5_factor 0 = .ok (.aload_n 0, 1) := by decide +kernel
theorem dX5_factor_1 : decode cX5_factor 1 = .ok (.iload_n 1, 1) := by decide +kernel
theorem dX5_factor_2 : decode cX5_factor 2 = .ok (.invokevirtual 80, 3) := by decide +kernel
theorem dX5_factor_5 : decode cX5_factor 5 = .ok (.astore_n 3, 1) := by decide +kernel
theorem dX5_factor_6 : decode cX5_factor 6 = .ok (.aload_n 3, 1) := by decide +kernel
theorem dX5_factor_7 : decode cX5_factor 7 = .ok (.ifnonnull 5, 3) := by decide +kernel
theorem dX5_factor_10 : decode cX5_factor 10 = .ok (.iconst (-1), 1) := by decide +kernel
theorem dX5_factor_11 : decode cX5_factor 11 = .ok (.ireturn, 1) := by decide +kernel
theorem dX5_factor_12 : decode cX5_factor 12 = .ok (.aload_n 0, 1) := by decide +kernel
theorem dX5_factor_13 : decode cX5_factor 13 = .ok (.getfield 38, 3) := by decide +kernel
theorem dX5_factor_16 : decode cX5_factor 16 = .ok (.iload_n 2, 1) := by decide +kernel
theorem dX5_factor_17 : decode cX5_factor 17 = .ok (.invokevirtual 191, 3) := by decide +kernel
theorem dX5_factor_20 : decode cX5_factor 20 = .ok (.astore 4, 2) := by decide +kernel
theorem dX5_factor_22 : decode cX5_factor 22 = .ok (.aload 4, 2) := by decide +kernel
theorem dX5_factor_24 : decode cX5_factor 24 = .ok (.ifnonnull 6, 3) := by decide +kernel
theorem dX5_factor_27 : decode cX5_factor 27 = .ok (.bipush (-2), 2) := by decide +kernel
theorem dX5_factor_29 : decode cX5_factor 29 = .ok (.ireturn, 1) := by decide +kernel
theorem dX5_factor_30 : decode cX5_factor 30 = .ok (.aload_n 3, 1) := by decide +kernel
theorem dX5_factor_31 : decode cX5_factor 31 = .ok (.aload 4, 2) := by decide +kernel
theorem dX5_factor_33 : decode cX5_factor 33 = .ok (.invokestatic 176, 3) := by decide +kernel
theorem dX5_factor_36 : decode cX5_factor 36 = .ok (.ireturn, 1) := by decide +kernel
set_option maxRecDepth 20000 in
theorem ggX5_many_X5_isListedNorm : GoodIn wsX5_many wsX5_isListedNorm := goodIn_r _ [4] (by decide +kernel) (by decide +kernel)
set_option maxRecDepth 20000 in
theorem gX5_many_X5_isListedNorm : GoodIn wsX5_many (va_wsS RX5 193 yX5_isListedNorm wsX5_isListedNorm) := goodIn_app (goodIn_of _ (by decide +kernel)) ggX5_many_X5_isListedNorm
set_option maxRecDepth 20000 in
theorem ggX5_many_X0_countAll : GoodIn wsX5_many wsX0_countAll := goodIn_r _ [8] (by decide +kernel) (by decide +kernel)
set_option maxRecDepth 20000 in
theorem gX5_many_X0_countAll : GoodIn wsX5_many (va_wsS RX5 196 yX0_countAll wsX0_countAll) := goodIn_app (goodIn_of _ (by decide +kernel)) ggX5_many_X0_countAll
set_option maxRecDepth 20000 in
theorem ggX5_many_X0_countWhole : GoodIn wsX5_many wsX0_countWhole := goodIn_r _ [11] (by decide +kernel) (by decide +kernel)
set_option maxRecDepth 20000 in
theorem gX5_many_X0_countWhole : GoodIn wsX5_many (va_wsS RX5 200 yX0_countWhole wsX0_countWhole) := goodIn_app (goodIn_of _ (by decide +kernel)) ggX5_many_X0_countWhole
set_option maxRecDepth 20000 in
theorem ggX5_many_X0_countPrimitive : GoodIn wsX5_many wsX0_countPrimitive := goodIn_r _ [14, 15, 16, 6, 7, 8] (by decide +kernel) (by decide +kernel)
set_option maxRecDepth 20000 in
theorem gX5_many_X0_countPrimitive : GoodIn wsX5_many (va_wsS RX5 203 yX0_countPrimitive wsX0_countPrimitive) := goodIn_app (goodIn_of _ (by decide +kernel)) ggX5_many_X0_countPrimitive
theorem dX5_many_0 : decode cX5_many 0 = .ok (.iload_n 1, 1) := by decide +kernel
theorem dX5_many_1 : decode cX5_many 1 = .ok (.invokestatic 193, 3) := by decide +kernel
theorem dX5_many_4 : decode cX5_many 4 = .ok (.ifCond .ne 5, 3) := by decide +kernel
theorem dX5_many_7 : decode cX5_many 7 = .ok (.iconst (-1), 1) := by decide +kernel
theorem dX5_many_8 : decode cX5_many 8 = .ok (.ireturn, 1) := by decide +kernel
theorem dX5_many_9 : decode cX5_many 9 = .ok (.iload_n 2, 1) := by decide +kernel
theorem dX5_many_10 : decode cX5_many 10 = .ok (.tableswitch 41 0 2 #[26, 31, 36], 26) := by decide +kernel
theorem dX5_many_36 : decode cX5_many 36 = .ok (.iload_n 1, 1) := by decide +kernel
theorem dX5_many_37 : decode cX5_many 37 = .ok (.invokestatic 196, 3) := by decide +kernel
theorem dX5_many_40 : decode cX5_many 40 = .ok (.ireturn, 1) := by decide +kernel
theorem dX5_many_41 : decode cX5_many 41 = .ok (.iload_n 1, 1) := by decide +kernel
theorem dX5_many_42 : decode cX5_many 42 = .ok (.invokestatic 200, 3) := by decide +kernel
theorem dX5_many_45 : decode cX5_many 45 = .ok (.ireturn, 1) := by decide +kernel
theorem dX5_many_46 : decode cX5_many 46 = .ok (.iload_n 1, 1) := by decide +kernel
theorem dX5_many_47 : decode cX5_many 47 = .ok (.invokestatic 203, 3) := by decide +kernel
theorem dX5_many_50 : decode cX5_many 50 = .ok (.ireturn, 1) := by decide +kernel
theorem dX5_many_51 : decode cX5_many 51 = .ok (.iconst (-1), 1) := by decide +kernel
theorem dX5_many_52 : decode cX5_many 52 = .ok (.ireturn, 1) := by decide +kernel
set_option maxRecDepth 20000 in
theorem ggX5_listed_X5_register : GoodIn wsX5_listed wsX5_register := goodIn_r _ [6, 7, 33, 34, 35, 36, 37, 38] (by decide +kernel) (by decide +kernel)
set_option maxRecDepth 20000 in
theorem gX5_listed_X5_register : GoodIn wsX5_listed (wsV RX5 80 RX5 yX5_register wsX5_register) := goodIn_app (goodIn_of _ (by decide +kernel)) ggX5_listed_X5_register
set_option maxRecDepth 20000 in
theorem ggX5_listed_X5_isListedNorm : GoodIn wsX5_listed wsX5_isListedNorm := goodIn_r _ [10] (by decide +kernel) (by decide +kernel)
set_option maxRecDepth 20000 in
theorem gX5_listed_X5_isListedNorm : GoodIn wsX5_listed (va_wsS RX5 193 yX5_isListedNorm wsX5_isListedNorm) := goodIn_app (goodIn_of _ (by decide +kernel)) ggX5_listed_X5_isListedNorm
set_option maxRecDepth 20000 in
theorem ggX5_listed_X0_find : GoodIn wsX5_listed wsX0_find := goodIn_r _ [15, 16, 17, 18, 14, 19, 20, 21, 22, 23, 24, 25, 26, 27, 28, 29, 30, 31, 32, 39, 40, 41, 42, 43] (by decide +kernel) (by decide +kernel)
set_option maxRecDepth 20000 in
theorem gX5_listed_X0_find : GoodIn wsX5_listed (wsV RX5 206 RX0 yX0_find wsX0_find) := goodIn_app (goodIn_of _ (by decide +kernel)) ggX5_listed_X0_find
theorem dX5_listed_0 : decode cX5_listed 0 = .ok (.aload_n 0, 1) := by decide +kernel
theorem dX5_listed_1 : decode cX5_listed 1 = .ok (.iload_n 1, 1) := by decide +kernel
theorem dX5_listed_2 : decode cX5_listed 2 = .ok (.invokevirtual 80, 3) := by decide +kernel
theorem dX5_listed_5 : decode cX5_listed 5 = .ok (.astore 4, 2) := by decide +kernel
theorem dX5_listed_7 : decode cX5_listed 7 = .ok (.aload 4, 2) := by decide +kernel
theorem dX5_listed_9 : decode cX5_listed 9 = .ok (.ifnull 14, 3) := by decide +kernel
theorem dX5_listed_12 : decode cX5_listed 12 = .ok (.iload_n 2, 1) := by decide +kernel
theorem dX5_listed_13 : decode cX5_listed 13 = .ok (.invokestatic 193, 3) := by decide +kernel
theorem dX5_listed_16 : decode cX5_listed 16 = .ok (.ifCond .eq 7, 3) := by decide +kernel
theorem dX5_listed_19 : decode cX5_listed 19 = .ok (.iload_n 3, 1) := by decide +kernel
theorem dX5_listed_20 : decode cX5_listed 20 = .ok (.ifCond .ge 5, 3) := by decide +kernel
theorem dX5_listed_23 : decode cX5_listed 23 = .ok (.iconst (-1), 1) := by decide +kernel
theorem dX5_listed_24 : decode cX5_listed 24 = .ok (.ireturn, 1) := by decide +kernel
theorem dX5_listed_25 : decode cX5_listed 25 = .ok (.aload_n 0, 1) := by decide +kernel
theorem dX5_listed_26 : decode cX5_listed 26 = .ok (.getfield 31, 3) := by decide +kernel
theorem dX5_listed_29 : decode cX5_listed 29 = .ok (.iload_n 2, 1) := by decide +kernel
theorem dX5_listed_30 : decode cX5_listed 30 = .ok (.iload_n 3, 1) := by decide +kernel
theorem dX5_listed_31 : decode cX5_listed 31 = .ok (.aload 4, 2) := by decide +kernel
theorem dX5_listed_33 : decode cX5_listed 33 = .ok (.invokevirtual 206, 3) := by decide +kernel
theorem dX5_listed_36 : decode cX5_listed 36 = .ok (.ifCond .eq 7, 3) := by decide +kernel
theorem dX5_listed_39 : decode cX5_listed 39 = .ok (.iconst 1, 1) := by decide +kernel
theorem dX5_listed_40 : decode cX5_listed 40 = .ok (.goto 5, 3) := by decide +kernel
theorem dX5_listed_43 : decode cX5_listed 43 = .ok (.bipush (-4), 2) := by decide +kernel
theorem dX5_listed_45 : decode cX5_listed 45 = .ok (.ireturn, 1) := by decide +kernel
set_option maxRecDepth 20000 in
theorem ggX5_turn_X5_register : GoodIn wsX5_turn wsX5_register := goodIn_r _ [7, 8, 27, 28, 29, 30, 31, 32] (by decide +kernel) (by decide +kernel)
set_option maxRecDepth 20000 in
theorem gX5_turn_X5_register : GoodIn wsX5_turn (wsV RX5 80 RX5 yX5_register wsX5_register) := goodIn_app (goodIn_of _ (by decide +kernel)) ggX5_turn_X5_register
set_option maxRecDepth 20000 in
theorem ggX5_turn_X5_isRow : GoodIn wsX5_turn wsX5_isRow := goodIn_r _ [11] (by decide +kernel) (by decide +kernel)
set_option maxRecDepth 20000 in
theorem gX5_turn_X5_isRow : GoodIn wsX5_turn (va_wsS RX5 210 yX5_isRow wsX5_isRow) := goodIn_app (goodIn_of _ (by decide +kernel)) ggX5_turn_X5_isRow
set_option maxRecDepth 20000 in
theorem ggX5_turn_X1_isZero : GoodIn wsX5_turn wsX1_isZero := goodIn_r _ [16, 17, 18, 19, 20, 33, 34, 35, 36] (by decide +kernel) (by decide +kernel)
set_option maxRecDepth 20000 in
theorem gX5_turn_X1_isZero : GoodIn wsX5_turn (wsV RX5 166 RX1 yX1_isZero wsX1_isZero) := goodIn_app (goodIn_of _ (by decide +kernel)) ggX5_turn_X1_isZero
set_option maxRecDepth 20000 in
theorem ggX5_turn_X1_turnAt : GoodIn wsX5_turn wsX1_turnAt := goodIn_r _ [24, 17, 18, 19, 20, 25, 26, 33, 34, 35, 36] (by decide +kernel) (by decide +kernel)
set_option maxRecDepth 20000 in
theorem gX5_turn_X1_turnAt : GoodIn wsX5_turn (wsV RX5 215 RX1 yX1_turnAt wsX1_turnAt) := goodIn_app (goodIn_of _ (by decide +kernel)) ggX5_turn_X1_turnAt
theorem dX5_turn_0 : decode cX5_turn 0 = .ok (.aload_n 0, 1) := by decide +kernel
theorem dX5_turn_1 : decode cX5_turn 1 = .ok (.iload_n 1, 1) := by decide +kernel
theorem dX5_turn_2 : decode cX5_turn 2 = .ok (.invokevirtual 80, 3) := by decide +kernel
theorem dX5_turn_5 : decode cX5_turn 5 = .ok (.astore 4, 2) := by decide +kernel
theorem dX5_turn_7 : decode cX5_turn 7 = .ok (.aload 4, 2) := by decide +kernel
theorem dX5_turn_9 : decode cX5_turn 9 = .ok (.ifnull 17, 3) := by decide +kernel
theorem dX5_turn_12 : decode cX5_turn 12 = .ok (.iload_n 2, 1) := by decide +kernel
theorem dX5_turn_13 : decode cX5_turn 13 = .ok (.invokestatic 210, 3) := by decide +kernel
theorem dX5_turn_16 : decode cX5_turn 16 = .ok (.ifCond .eq 10, 3) := by decide +kernel
theorem dX5_turn_19 : decode cX5_turn 19 = .ok (.iload_n 3, 1) := by decide +kernel
theorem dX5_turn_20 : decode cX5_turn 20 = .ok (.invokestatic 210, 3) := by decide +kernel
theorem dX5_turn_23 : decode cX5_turn 23 = .ok (.ifCond .ne 6, 3) := by decide +kernel
theorem dX5_turn_26 : decode cX5_turn 26 = .ok (.ldc 213, 2) := by decide +kernel
theorem dX5_turn_28 : decode cX5_turn 28 = .ok (.ireturn, 1) := by decide +kernel
theorem dX5_turn_29 : decode cX5_turn 29 = .ok (.aload 4, 2) := by decide +kernel
theorem dX5_turn_31 : decode cX5_turn 31 = .ok (.invokevirtual 166, 3) := by decide +kernel
theorem dX5_turn_34 : decode cX5_turn 34 = .ok (.ifCond .eq 6, 3) := by decide +kernel
theorem dX5_turn_37 : decode cX5_turn 37 = .ok (.ldc 214, 2) := by decide +kernel
theorem dX5_turn_39 : decode cX5_turn 39 = .ok (.ireturn, 1) := by decide +kernel
theorem dX5_turn_40 : decode cX5_turn 40 = .ok (.aload 4, 2) := by decide +kernel
theorem dX5_turn_42 : decode cX5_turn 42 = .ok (.iload_n 2, 1) := by decide +kernel
theorem dX5_turn_43 : decode cX5_turn 43 = .ok (.iload_n 3, 1) := by decide +kernel
theorem dX5_turn_44 : decode cX5_turn 44 = .ok (.invokevirtual 215, 3) := by decide +kernel
theorem dX5_turn_47 : decode cX5_turn 47 = .ok (.l2i, 1) := by decide +kernel
theorem dX5_turn_48 : decode cX5_turn 48 = .ok (.ireturn, 1) := by decide +kernel
set_option maxRecDepth 20000 in
theorem ggX5_turned_X5_register : GoodIn wsX5_turned wsX5_register := goodIn_r _ [6, 7, 25, 26, 27, 28, 29, 30] (by decide +kernel) (by decide +kernel)
set_option maxRecDepth 20000 in
theorem gX5_turned_X5_register : GoodIn wsX5_turned (wsV RX5 80 RX5 yX5_register wsX5_register) := goodIn_app (goodIn_of _ (by decide +kernel)) ggX5_turned_X5_register
set_option maxRecDepth 20000 in
theorem ggX5_turned_X5_isPoint : GoodIn wsX5_turned wsX5_isPoint := goodIn_r _ [10] (by decide +kernel) (by decide +kernel)
set_option maxRecDepth 20000 in
theorem gX5_turned_X5_isPoint : GoodIn wsX5_turned (va_wsS RX5 219 yX5_isPoint wsX5_isPoint) := goodIn_app (goodIn_of _ (by decide +kernel)) ggX5_turned_X5_isPoint
set_option maxRecDepth 20000 in
theorem ggX5_turned_X5_isRow : GoodIn wsX5_turned wsX5_isRow := goodIn_r _ [13] (by decide +kernel) (by decide +kernel)
set_option maxRecDepth 20000 in
theorem gX5_turned_X5_isRow : GoodIn wsX5_turned (va_wsS RX5 210 yX5_isRow wsX5_isRow) := goodIn_app (goodIn_of _ (by decide +kernel)) ggX5_turned_X5_isRow
set_option maxRecDepth 20000 in
theorem ggX5_turned_X1_turnAt : GoodIn wsX5_turned wsX1_turnAt := goodIn_r _ [18, 19, 20, 21, 22, 23, 24, 31, 32, 33, 34] (by decide +kernel) (by decide +kernel)
set_option maxRecDepth 20000 in
theorem gX5_turned_X1_turnAt : GoodIn wsX5_turned (wsV RX5 215 RX1 yX1_turnAt wsX1_turnAt) := goodIn_app (goodIn_of _ (by decide +kernel)) ggX5_turned_X1_turnAt
theorem dX5_turned_0 : decode cX5_turned 0 = .ok (.aload_n 0, 1) := by decide +kernel
theorem dX5_turned_1 : decode cX5_turned 1 = .ok (.iload_n 1, 1) := by decide +kernel
theorem dX5_turned_2 : decode cX5_turned 2 = .ok (.invokevirtual 80, 3) := by decide +kernel
theorem dX5_turned_5 : decode cX5_turned 5 = .ok (.astore 6, 2) := by decide +kernel
theorem dX5_turned_7 : decode cX5_turned 7 = .ok (.aload 6, 2) := by decide +kernel
theorem dX5_turned_9 : decode cX5_turned 9 = .ok (.ifnull 33, 3) := by decide +kernel
theorem dX5_turned_12 : decode cX5_turned 12 = .ok (.iload_n 2, 1) := by decide +kernel
theorem dX5_turned_13 : decode cX5_turned 13 = .ok (.invokestatic 219, 3) := by decide +kernel
theorem dX5_turned_16 : decode cX5_turned 16 = .ok (.ifCond .eq 26, 3) := by decide +kernel
theorem dX5_turned_19 : decode cX5_turned 19 = .ok (.iload_n 3, 1) := by decide +kernel
theorem dX5_turned_20 : decode cX5_turned 20 = .ok (.invokestatic 219, 3) := by decide +kernel
theorem dX5_turned_23 : decode cX5_turned 23 = .ok (.ifCond .eq 19, 3) := by decide +kernel
theorem dX5_turned_26 : decode cX5_turned 26 = .ok (.iload 4, 2) := by decide +kernel
theorem dX5_turned_28 : decode cX5_turned 28 = .ok (.invokestatic 219, 3) := by decide +kernel
theorem dX5_turned_31 : decode cX5_turned 31 = .ok (.ifCond .eq 11, 3) := by decide +kernel
theorem dX5_turned_34 : decode cX5_turned 34 = .ok (.iload 5, 2) := by decide +kernel
theorem dX5_turned_36 : decode cX5_turned 36 = .ok (.invokestatic 210, 3) := by decide +kernel
theorem dX5_turned_39 : decode cX5_turned 39 = .ok (.ifCond .ne 7, 3) := by decide +kernel
theorem dX5_turned_42 : decode cX5_turned 42 = .ok (.ldc2_w 222, 3) := by decide +kernel
theorem dX5_turned_45 : decode cX5_turned 45 = .ok (.lreturn, 1) := by decide +kernel
theorem dX5_turned_46 : decode cX5_turned 46 = .ok (.aload 6, 2) := by decide +kernel
theorem dX5_turned_48 : decode cX5_turned 48 = .ok (.iload 5, 2) := by decide +kernel
theorem dX5_turned_50 : decode cX5_turned 50 = .ok (.iconst 0, 1) := by decide +kernel
theorem dX5_turned_51 : decode cX5_turned 51 = .ok (.invokevirtual 215, 3) := by decide +kernel
theorem dX5_turned_54 : decode cX5_turned 54 = .ok (.iload_n 2, 1) := by decide +kernel
theorem dX5_turned_55 : decode cX5_turned 55 = .ok (.i2l, 1) := by decide +kernel
theorem dX5_turned_56 : decode cX5_turned 56 = .ok (.lmul, 1) := by decide +kernel
theorem dX5_turned_57 : decode cX5_turned 57 = .ok (.aload 6, 2) := by decide +kernel
theorem dX5_turned_59 : decode cX5_turned 59 = .ok (.iload 5, 2) := by decide +kernel
theorem dX5_turned_61 : decode cX5_turned 61 = .ok (.iconst 1, 1) := by decide +kernel
theorem dX5_turned_62 : decode cX5_turned 62 = .ok (.invokevirtual 215, 3) := by decide +kernel
theorem dX5_turned_65 : decode cX5_turned 65 = .ok (.iload_n 3, 1) := by decide +kernel
theorem dX5_turned_66 : decode cX5_turned 66 = .ok (.i2l, 1) := by decide +kernel
theorem dX5_turned_67 : decode cX5_turned 67 = .ok (.lmul, 1) := by decide +kernel
theorem dX5_turned_68 : decode cX5_turned 68 = .ok (.ladd, 1) := by decide +kernel
theorem dX5_turned_69 : decode cX5_turned 69 = .ok (.aload 6, 2) := by decide +kernel
theorem dX5_turned_71 : decode cX5_turned 71 = .ok (.iload 5, 2) := by decide +kernel
theorem dX5_turned_73 : decode cX5_turned 73 = .ok (.iconst 2, 1) := by decide +kernel
theorem dX5_turned_74 : decode cX5_turned 74 = .ok (.invokevirtual 215, 3) := by decide +kernel
theorem dX5_turned_77 : decode cX5_turned 77 = .ok (.iload 4, 2) := by decide +kernel
theorem dX5_turned_79 : decode cX5_turned 79 = .ok (.i2l, 1) := by decide +kernel
theorem dX5_turned_80 : decode cX5_turned 80 = .ok (.lmul, 1) := by decide +kernel
theorem dX5_turned_81 : decode cX5_turned 81 = .ok (.ladd, 1) := by decide +kernel
theorem dX5_turned_82 : decode cX5_turned 82 = .ok (.lreturn, 1) := by decide +kernel
theorem dX5_register_0 : decode cX5_register 0 = .ok (.iload_n 1, 1) := by decide +kernel
theorem dX5_register_1 : decode cX5_register 1 = .ok (.ifCond .lt 21, 3) := by decide +kernel
theorem dX5_register_4 : decode cX5_register 4 = .ok (.iload_n 1, 1) := by decide +kernel
theorem dX5_register_5 : decode cX5_register 5 = .ok (.aload_n 0, 1) := by decide +kernel
theorem dX5_register_6 : decode cX5_register 6 = .ok (.getfield 11, 3) := by decide +kernel
theorem dX5_register_9 : decode cX5_register 9 = .ok (.arraylength, 1) := by decide +kernel
theorem dX5_register_10 : decode cX5_register 10 = .ok (.if_icmp .ge 12, 3) := by decide +kernel
theorem dX5_register_13 : decode cX5_register 13 = .ok (.aload_n 0, 1) := by decide +kernel
theorem dX5_register_14 : decode cX5_register 14 = .ok (.getfield 11, 3) := by decide +kernel
theorem dX5_register_17 : decode cX5_register 17 = .ok (.iload_n 1, 1) := by decide +kernel
theorem dX5_register_18 : decode cX5_register 18 = .ok (.aaload, 1) := by decide +kernel
theorem dX5_register_19 : decode cX5_register 19 = .ok (.goto 4, 3) := by decide +kernel
theorem dX5_register_22 : decode cX5_register 22 = .ok (.aconst_null, 1) := by decide +kernel
theorem dX5_register_23 : decode cX5_register 23 = .ok (.areturn, 1) := by decide +kernel
theorem dX5_sheetAt_0 : decode cX5_sheetAt 0 = .ok (.iload_n 1, 1) := by decide +kernel
theorem dX5_sheetAt_1 : decode cX5_sheetAt 1 = .ok (.ifCond .lt 21, 3) := by decide +kernel
theorem dX5_sheetAt_4 : decode cX5_sheetAt 4 = .ok (.iload_n 1, 1) := by decide +kernel
theorem dX5_sheetAt_5 : decode cX5_sheetAt 5 = .ok (.aload_n 0, 1) := by decide +kernel
theorem dX5_sheetAt_6 : decode cX5_sheetAt 6 = .ok (.getfield 17, 3) := by decide +kernel
theorem dX5_sheetAt_9 : decode cX5_sheetAt 9 = .ok (.arraylength, 1) := by decide +kernel
theorem dX5_sheetAt_10 : decode cX5_sheetAt 10 = .ok (.if_icmp .ge 12, 3) := by decide +kernel
theorem dX5_sheetAt_13 : decode cX5_sheetAt 13 = .ok (.aload_n 0, 1) := by decide +kernel
theorem dX5_sheetAt_14 : decode cX5_sheetAt 14 = .ok (.getfield 17, 3) := by decide +kernel
theorem dX5_sheetAt_17 : decode cX5_sheetAt 17 = .ok (.iload_n 1, 1) := by decide +kernel
theorem dX5_sheetAt_18 : decode cX5_sheetAt 18 = .ok (.aaload, 1) := by decide +kernel
theorem dX5_sheetAt_19 : decode cX5_sheetAt 19 = .ok (.goto 4, 3) := by decide +kernel
theorem dX5_sheetAt_22 : decode cX5_sheetAt 22 = .ok (.aconst_null, 1) := by decide +kernel
theorem dX5_sheetAt_23 : decode cX5_sheetAt 23 = .ok (.areturn, 1) := by decide +kernel
set_option maxRecDepth 20000 in
theorem ggX5_refusalOf_X3_isMissing : GoodIn wsX5_refusalOf wsX3_isMissing := goodIn_r _ [5, 6, 12, 13, 14] (by decide +kernel) (by decide +kernel)
set_option maxRecDepth 20000 in
theorem gX5_refusalOf_X3_isMissing : GoodIn wsX5_refusalOf (wsV RX5 64 RX3 yX3_isMissing wsX3_isMissing) := goodIn_app (goodIn_of _ (by decide +kernel)) ggX5_refusalOf_X3_isMissing
set_option maxRecDepth 20000 in
theorem ggX5_refusalOf_X3_reaches : GoodIn wsX5_refusalOf wsX3_reaches := goodIn_r _ [10, 11, 12, 13, 14] (by decide +kernel) (by decide +kernel)
set_option maxRecDepth 20000 in
theorem gX5_refusalOf_X3_reaches : GoodIn wsX5_refusalOf (wsV RX5 72 RX3 yX3_reaches wsX3_reaches) := goodIn_app (goodIn_of _ (by decide +kernel)) ggX5_refusalOf_X3_reaches
theorem dX5_refusalOf_0 : decode cX5_refusalOf 0 = .ok (.aload_n 0, 1) := by decide +kernel
theorem dX5_refusalOf_1 : decode cX5_refusalOf 1 = .ok (.invokevirtual 64, 3) := by decide +kernel
theorem dX5_refusalOf_4 : decode cX5_refusalOf 4 = .ok (.ifCond .eq 6, 3) := by decide +kernel
theorem dX5_refusalOf_7 : decode cX5_refusalOf 7 = .ok (.bipush (-11), 2) := by decide +kernel
theorem dX5_refusalOf_9 : decode cX5_refusalOf 9 = .ok (.ireturn, 1) := by decide +kernel
theorem dX5_refusalOf_10 : decode cX5_refusalOf 10 = .ok (.aload_n 0, 1) := by decide +kernel
theorem dX5_refusalOf_11 : decode cX5_refusalOf 11 = .ok (.iload_n 1, 1) := by decide +kernel
theorem dX5_refusalOf_12 : decode cX5_refusalOf 12 = .ok (.iload_n 2, 1) := by decide +kernel
theorem dX5_refusalOf_13 : decode cX5_refusalOf 13 = .ok (.invokevirtual 72, 3) := by decide +kernel
theorem dX5_refusalOf_16 : decode cX5_refusalOf 16 = .ok (.ifCond .eq 7, 3) := by decide +kernel
theorem dX5_refusalOf_19 : decode cX5_refusalOf 19 = .ok (.iconst 0, 1) := by decide +kernel
theorem dX5_refusalOf_20 : decode cX5_refusalOf 20 = .ok (.goto 5, 3) := by decide +kernel
theorem dX5_refusalOf_23 : decode cX5_refusalOf 23 = .ok (.bipush (-12), 2) := by decide +kernel
theorem dX5_refusalOf_25 : decode cX5_refusalOf 25 = .ok (.ireturn, 1) := by decide +kernel
set_option maxRecDepth 20000 in
theorem ggX5_hold_X1_isHigh : GoodIn wsX5_hold wsX1_isHigh := goodIn_r _ [5, 6, 7, 8, 9, 10, 11, 4, 12, 13, 14, 23, 24, 25, 26] (by decide +kernel) (by decide +kernel)
set_option maxRecDepth 20000 in
theorem gX5_hold_X1_isHigh : GoodIn wsX5_hold (wsV RX5 95 RX1 yX1_isHigh wsX1_isHigh) := goodIn_app (goodIn_of _ (by decide +kernel)) ggX5_hold_X1_isHigh
set_option maxRecDepth 20000 in
theorem ggX5_hold_X1_becomeLike : GoodIn wsX5_hold wsX1_becomeLike := goodIn_r _ [18, 6, 7, 8, 9, 19, 20, 21, 4, 22, 23, 24, 25, 26] (by decide +kernel) (by decide +kernel)
set_option maxRecDepth 20000 in
theorem gX5_hold_X1_becomeLike : GoodIn wsX5_hold (wsV RX5 98 RX1 yX1_becomeLike wsX1_becomeLike) := goodIn_app (goodIn_of _ (by decide +kernel)) ggX5_hold_X1_becomeLike
theorem dX5_hold_0 : decode cX5_hold 0 = .ok (.aload_n 1, 1) := by decide +kernel
theorem dX5_hold_1 : decode cX5_hold 1 = .ok (.invokevirtual 95, 3) := by decide +kernel
theorem dX5_hold_4 : decode cX5_hold 4 = .ok (.ifCond .eq 6, 3) := by decide +kernel
theorem dX5_hold_7 : decode cX5_hold 7 = .ok (.bipush (-3), 2) := by decide +kernel
theorem dX5_hold_9 : decode cX5_hold 9 = .ok (.ireturn, 1) := by decide +kernel
theorem dX5_hold_10 : decode cX5_hold 10 = .ok (.aload_n 0, 1) := by decide +kernel
theorem dX5_hold_11 : decode cX5_hold 11 = .ok (.aload_n 1, 1) := by decide +kernel
theorem dX5_hold_12 : decode cX5_hold 12 = .ok (.invokevirtual 98, 3) := by decide +kernel
theorem dX5_hold_15 : decode cX5_hold 15 = .ok (.iconst 0, 1) := by decide +kernel
theorem dX5_hold_16 : decode cX5_hold 16 = .ok (.ireturn, 1) := by decide +kernel
set_option maxRecDepth 20000 in
theorem ggX5_holdForNorm_X5_hold : GoodIn wsX5_holdForNorm wsX5_hold := goodIn_r _ [4, 5, 6, 7, 8, 9, 10, 11, 12, 13, 14, 15, 16, 17, 18, 19, 20, 21, 22, 23, 24, 25, 26, 32, 33, 34, 35] (by decide +kernel) (by decide +kernel)
set_option maxRecDepth 20000 in
theorem gX5_holdForNorm_X5_hold : GoodIn wsX5_holdForNorm (va_wsS RX5 115 yX5_hold wsX5_hold) := goodIn_app (goodIn_of _ (by decide +kernel)) ggX5_holdForNorm_X5_hold
set_option maxRecDepth 20000 in
theorem ggX5_holdForNorm_X1_norm : GoodIn wsX5_holdForNorm wsX1_norm := goodIn_r _ [30, 10, 11, 12, 13, 31, 32, 33, 34, 35] (by decide +kernel) (by decide +kernel)
set_option maxRecDepth 20000 in
theorem gX5_holdForNorm_X1_norm : GoodIn wsX5_holdForNorm (wsV RX5 120 RX1 yX1_norm wsX1_norm) := goodIn_app (goodIn_of _ (by decide +kernel)) ggX5_holdForNorm_X1_norm
theorem dX5_holdForNorm_0 : decode cX5_holdForNorm 0 = .ok (.aload_n 0, 1) := by decide +kernel
theorem dX5_holdForNorm_1 : decode cX5_holdForNorm 1 = .ok (.aload_n 1, 1) := by decide +kernel
theorem dX5_holdForNorm_2 : decode cX5_holdForNorm 2 = .ok (.invokestatic 115, 3) := by decide +kernel
theorem dX5_holdForNorm_5 : decode cX5_holdForNorm 5 = .ok (.istore_n 2, 1) := by decide +kernel
theorem dX5_holdForNorm_6 : decode cX5_holdForNorm 6 = .ok (.iload_n 2, 1) := by decide +kernel
theorem dX5_holdForNorm_7 : decode cX5_holdForNorm 7 = .ok (.ifCond .eq 7, 3) := by decide +kernel
theorem dX5_holdForNorm_10 : decode cX5_holdForNorm 10 = .ok (.iload_n 2, 1) := by decide +kernel
theorem dX5_holdForNorm_11 : decode cX5_holdForNorm 11 = .ok (.goto 8, 3) := by decide +kernel
theorem dX5_holdForNorm_14 : decode cX5_holdForNorm 14 = .ok (.aload_n 0, 1) := by decide +kernel
theorem dX5_holdForNorm_15 : decode cX5_holdForNorm 15 = .ok (.invokevirtual 120, 3) := by decide +kernel
theorem dX5_holdForNorm_18 : decode cX5_holdForNorm 18 = .ok (.l2i, 1) := by decide +kernel
theorem dX5_holdForNorm_19 : decode cX5_holdForNorm 19 = .ok (.ireturn, 1) := by decide +kernel
set_option maxRecDepth 20000 in
theorem ggX5_unitNumber_X1_becomeUnit : GoodIn wsX5_unitNumber wsX1_becomeUnit := goodIn_r _ [6, 7, 8, 9, 5, 10, 11, 12, 13, 14, 25, 26, 27, 28] (by decide +kernel) (by decide +kernel)
set_option maxRecDepth 20000 in
theorem gX5_unitNumber_X1_becomeUnit : GoodIn wsX5_unitNumber (wsV RX5 148 RX1 yX1_becomeUnit wsX1_becomeUnit) := goodIn_app (goodIn_of _ (by decide +kernel)) ggX5_unitNumber_X1_becomeUnit
set_option maxRecDepth 20000 in
theorem ggX5_unitNumber_X1_isSame : GoodIn wsX5_unitNumber wsX1_isSame := goodIn_r _ [18, 11, 12, 13, 14, 25, 26, 27, 28] (by decide +kernel) (by decide +kernel)
set_option maxRecDepth 20000 in
theorem gX5_unitNumber_X1_isSame : GoodIn wsX5_unitNumber (wsV RX5 179 RX1 yX1_isSame wsX1_isSame) := goodIn_app (goodIn_of _ (by decide +kernel)) ggX5_unitNumber_X1_isSame
theorem dX5_unitNumber_0 : decode cX5_unitNumber 0 = .ok (.iconst 0, 1) := by decide +kernel
theorem dX5_unitNumber_1 : decode cX5_unitNumber 1 = .ok (.istore_n 2, 1) := by decide +kernel
theorem dX5_unitNumber_2 : decode cX5_unitNumber 2 = .ok (.iload_n 2, 1) := by decide +kernel
theorem dX5_unitNumber_3 : decode cX5_unitNumber 3 = .ok (.bipush 24, 2) := by decide +kernel
theorem dX5_unitNumber_5 : decode cX5_unitNumber 5 = .ok (.if_icmp .ge 30, 3) := by decide +kernel
theorem dX5_unitNumber_8 : decode cX5_unitNumber 8 = .ok (.aload_n 0, 1) := by decide +kernel
theorem dX5_unitNumber_9 : decode cX5_unitNumber 9 = .ok (.getfield 43, 3) := by decide +kernel
theorem dX5_unitNumber_12 : decode cX5_unitNumber 12 = .ok (.iload_n 2, 1) := by decide +kernel
theorem dX5_unitNumber_13 : decode cX5_unitNumber 13 = .ok (.invokevirtual 148, 3) := by decide +kernel
theorem dX5_unitNumber_16 : decode cX5_unitNumber 16 = .ok (.aload_n 0, 1) := by decide +kernel
theorem dX5_unitNumber_17 : decode cX5_unitNumber 17 = .ok (.getfield 43, 3) := by decide +kernel
theorem dX5_unitNumber_20 : decode cX5_unitNumber 20 = .ok (.aload_n 1, 1) := by decide +kernel
theorem dX5_unitNumber_21 : decode cX5_unitNumber 21 = .ok (.invokevirtual 179, 3) := by decide +kernel
theorem dX5_unitNumber_24 : decode cX5_unitNumber 24 = .ok (.ifCond .eq 5, 3) := by decide +kernel
theorem dX5_unitNumber_27 : decode cX5_unitNumber 27 = .ok (.iload_n 2, 1) := by decide +kernel
theorem dX5_unitNumber_28 : decode cX5_unitNumber 28 = .ok (.ireturn, 1) := by decide +kernel
theorem dX5_unitNumber_29 : decode cX5_unitNumber 29 = .ok (.iinc 2 1, 3) := by decide +kernel
theorem dX5_unitNumber_32 : decode cX5_unitNumber 32 = .ok (.goto (-30), 3) := by decide +kernel
theorem dX5_unitNumber_35 : decode cX5_unitNumber 35 = .ok (.bipush (-4), 2) := by decide +kernel
theorem dX5_unitNumber_37 : decode cX5_unitNumber 37 = .ok (.ireturn, 1) := by decide +kernel
theorem dX5_isSide_0 : decode cX5_isSide 0 = .ok (.iload_n 0, 1) := by decide +kernel
theorem dX5_isSide_1 : decode cX5_isSide 1 = .ok (.ifCond .eq 8, 3) := by decide +kernel
theorem dX5_isSide_4 : decode cX5_isSide 4 = .ok (.iload_n 0, 1) := by decide +kernel
theorem dX5_isSide_5 : decode cX5_isSide 5 = .ok (.iconst 1, 1) := by decide +kernel
theorem dX5_isSide_6 : decode cX5_isSide 6 = .ok (.if_icmp .ne 7, 3) := by decide +kernel
theorem dX5_isSide_9 : decode cX5_isSide 9 = .ok (.iconst 1, 1) := by decide +kernel
theorem dX5_isSide_10 : decode cX5_isSide 10 = .ok (.goto 4, 3) := by decide +kernel
theorem dX5_isSide_13 : decode cX5_isSide 13 = .ok (.iconst 0, 1) := by decide +kernel
theorem dX5_isSide_14 : decode cX5_isSide 14 = .ok (.ireturn, 1) := by decide +kernel
theorem dX5_isListedNorm_0 : decode cX5_isListedNorm 0 = .ok (.iload_n 0, 1) := by decide +kernel
theorem dX5_isListedNorm_1 : decode cX5_isListedNorm 1 = .ok (.iconst 1, 1) := by decide +kernel
theorem dX5_isListedNorm_2 : decode cX5_isListedNorm 2 = .ok (.if_icmp .lt 14, 3) := by decide +kernel
theorem dX5_isListedNorm_5 : decode cX5_isListedNorm 5 = .ok (.iload_n 0, 1) := by decide +kernel
theorem dX5_isListedNorm_6 : decode cX5_isListedNorm 6 = .ok (.sipush 200, 3) := by decide +kernel
theorem dX5_isListedNorm_9 : decode cX5_isListedNorm 9 = .ok (.if_icmp .gt 7, 3) := by decide +kernel
theorem dX5_isListedNorm_12 : decode cX5_isListedNorm 12 = .ok (.iconst 1, 1) := by decide +kernel
theorem dX5_isListedNorm_13 : decode cX5_isListedNorm 13 = .ok (.goto 4, 3) := by decide +kernel
theorem dX5_isListedNorm_16 : decode cX5_isListedNorm 16 = .ok (.iconst 0, 1) := by decide +kernel
theorem dX5_isListedNorm_17 : decode cX5_isListedNorm 17 = .ok (.ireturn, 1) := by decide +kernel
theorem dX5_isRow_0 : decode cX5_isRow 0 = .ok (.iload_n 0, 1) := by decide +kernel
theorem dX5_isRow_1 : decode cX5_isRow 1 = .ok (.ifCond .lt 12, 3) := by decide +kernel
theorem dX5_isRow_4 : decode cX5_isRow 4 = .ok (.iload_n 0, 1) := by decide +kernel
theorem dX5_isRow_5 : decode cX5_isRow 5 = .ok (.iconst 2, 1) := by decide +kernel
theorem dX5_isRow_6 : decode cX5_isRow 6 = .ok (.if_icmp .gt 7, 3) := by decide +kernel
theorem dX5_isRow_9 : decode cX5_isRow 9 = .ok (.iconst 1, 1) := by decide +kernel
theorem dX5_isRow_10 : decode cX5_isRow 10 = .ok (.goto 4, 3) := by decide +kernel
theorem dX5_isRow_13 : decode cX5_isRow 13 = .ok (.iconst 0, 1) := by decide +kernel
theorem dX5_isRow_14 : decode cX5_isRow 14 = .ok (.ireturn, 1) := by decide +kernel
theorem dX5_isPoint_0 : decode cX5_isPoint 0 = .ok (.iload_n 0, 1) := by decide +kernel
theorem dX5_isPoint_1 : decode cX5_isPoint 1 = .ok (.bipush (-100), 2) := by decide +kernel
theorem dX5_isPoint_3 : decode cX5_isPoint 3 = .ok (.if_icmp .lt 13, 3) := by decide +kernel
theorem dX5_isPoint_6 : decode cX5_isPoint 6 = .ok (.iload_n 0, 1) := by decide +kernel
theorem dX5_isPoint_7 : decode cX5_isPoint 7 = .ok (.bipush 100, 2) := by decide +kernel
theorem dX5_isPoint_9 : decode cX5_isPoint 9 = .ok (.if_icmp .gt 7, 3) := by decide +kernel
theorem dX5_isPoint_12 : decode cX5_isPoint 12 = .ok (.iconst 1, 1) := by decide +kernel
theorem dX5_isPoint_13 : decode cX5_isPoint 13 = .ok (.goto 4, 3) := by decide +kernel
theorem dX5_isPoint_16 : decode cX5_isPoint 16 = .ok (.iconst 0, 1) := by decide +kernel
theorem dX5_isPoint_17 : decode cX5_isPoint 17 = .ok (.ireturn, 1) := by decide +kernel
set_option maxRecDepth 20000 in
theorem ggX5_arePrimesWithProduct_X3_at : GoodIn wsX5_arePrimesWithProduct wsX3_at := goodIn_r _ [6, 7, 8, 16, 17, 18] (by decide +kernel) (by decide +kernel)
set_option maxRecDepth 20000 in
theorem gX5_arePrimesWithProduct_X3_at : GoodIn wsX5_arePrimesWithProduct (wsV RX5 84 RX3 yX3_at wsX3_at) := goodIn_app (goodIn_of _ (by decide +kernel)) ggX5_arePrimesWithProduct_X3_at
set_option maxRecDepth 20000 in
theorem ggX5_arePrimesWithProduct_X5_isPrime : GoodIn wsX5_arePrimesWithProduct wsX5_isPrime := goodIn_r _ [12, 13, 1, 14, 15] (by decide +kernel) (by decide +kernel)
set_option maxRecDepth 20000 in
theorem gX5_arePrimesWithProduct_X5_isPrime : GoodIn wsX5_arePrimesWithProduct (va_wsS RX5 226 yX5_isPrime wsX5_isPrime) := goodIn_app (goodIn_of _ (by decide +kernel)) ggX5_arePrimesWithProduct_X5_isPrime
theorem dX5_arePrimesWithProduct_0 : decode cX5_arePrimesWithProduct 0 = .ok (.lload_n 3, 1) := by decide +kernel
theorem dX5_arePrimesWithProduct_1 : decode cX5_arePrimesWithProduct 1 = .ok (.lstore 5, 2) := by decide +kernel
theorem dX5_arePrimesWithProduct_3 : decode cX5_arePrimesWithProduct 3 = .ok (.iconst 0, 1) := by decide +kernel
theorem dX5_arePrimesWithProduct_4 : decode cX5_arePrimesWithProduct 4 = .ok (.istore 7, 2) := by decide +kernel
theorem dX5_arePrimesWithProduct_6 : decode cX5_arePrimesWithProduct 6 = .ok (.iload 7, 2) := by decide +kernel
theorem dX5_arePrimesWithProduct_8 : decode cX5_arePrimesWithProduct 8 = .ok (.iload_n 2, 1) := by decide +kernel
theorem dX5_arePrimesWithProduct_9 : decode cX5_arePrimesWithProduct 9 = .ok (.if_icmp .ge 55, 3) := by decide +kernel
theorem dX5_arePrimesWithProduct_12 : decode cX5_arePrimesWithProduct 12 = .ok (.aload_n 0, 1) := by decide +kernel
theorem dX5_arePrimesWithProduct_13 : decode cX5_arePrimesWithProduct 13 = .ok (.iload_n 1, 1) := by decide +kernel
theorem dX5_arePrimesWithProduct_14 : decode cX5_arePrimesWithProduct 14 = .ok (.iload 7, 2) := by decide +kernel
theorem dX5_arePrimesWithProduct_16 : decode cX5_arePrimesWithProduct 16 = .ok (.iadd, 1) := by decide +kernel
theorem dX5_arePrimesWithProduct_17 : decode cX5_arePrimesWithProduct 17 = .ok (.invokevirtual 84, 3) := by decide +kernel
theorem dX5_arePrimesWithProduct_20 : decode cX5_arePrimesWithProduct 20 = .ok (.lstore 8, 2) := by decide +kernel
theorem dX5_arePrimesWithProduct_22 : decode cX5_arePrimesWithProduct 22 = .ok (.lload 8, 2) := by decide +kernel
theorem dX5_arePrimesWithProduct_24 : decode cX5_arePrimesWithProduct 24 = .ok (.ldc2_w 224, 3) := by decide +kernel
theorem dX5_arePrimesWithProduct_27 : decode cX5_arePrimesWithProduct 27 = .ok (.lcmp, 1) := by decide +kernel
theorem dX5_arePrimesWithProduct_28 : decode cX5_arePrimesWithProduct 28 = .ok (.ifCond .lt 21, 3) := by decide +kernel
theorem dX5_arePrimesWithProduct_31 : decode cX5_arePrimesWithProduct 31 = .ok (.lload 5, 2) := by decide +kernel
theorem dX5_arePrimesWithProduct_33 : decode cX5_arePrimesWithProduct 33 = .ok (.lload 8, 2) := by decide +kernel
theorem dX5_arePrimesWithProduct_35 : decode cX5_arePrimesWithProduct 35 = .ok (.lrem, 1) := by decide +kernel
theorem dX5_arePrimesWithProduct_36 : decode cX5_arePrimesWithProduct 36 = .ok (.lconst 0, 1) := by decide +kernel
theorem dX5_arePrimesWithProduct_37 : decode cX5_arePrimesWithProduct 37 = .ok (.lcmp, 1) := by decide +kernel
theorem dX5_arePrimesWithProduct_38 : decode cX5_arePrimesWithProduct 38 = .ok (.ifCond .ne 11, 3) := by decide +kernel
theorem dX5_arePrimesWithProduct_41 : decode cX5_arePrimesWithProduct 41 = .ok (.lload 8, 2) := by decide +kernel
theorem dX5_arePrimesWithProduct_43 : decode cX5_arePrimesWithProduct 43 = .ok (.invokestatic 226, 3) := by decide +kernel
theorem dX5_arePrimesWithProduct_46 : decode cX5_arePrimesWithProduct 46 = .ok (.ifCond .ne 5, 3) := by decide +kernel
theorem dX5_arePrimesWithProduct_49 : decode cX5_arePrimesWithProduct 49 = .ok (.iconst 0, 1) := by decide +kernel
theorem dX5_arePrimesWithProduct_50 : decode cX5_arePrimesWithProduct 50 = .ok (.ireturn, 1) := by decide +kernel
theorem dX5_arePrimesWithProduct_51 : decode cX5_arePrimesWithProduct 51 = .ok (.lload 5, 2) := by decide +kernel
theorem dX5_arePrimesWithProduct_53 : decode cX5_arePrimesWithProduct 53 = .ok (.lload 8, 2) := by decide +kernel
theorem dX5_arePrimesWithProduct_55 : decode cX5_arePrimesWithProduct 55 = .ok (.ldiv, 1) := by decide +kernel
theorem dX5_arePrimesWithProduct_56 : decode cX5_arePrimesWithProduct 56 = .ok (.lstore 5, 2) := by decide +kernel
theorem dX5_arePrimesWithProduct_58 : decode cX5_arePrimesWithProduct 58 = .ok (.iinc 7 1, 3) := by decide +kernel
theorem dX5_arePrimesWithProduct_61 : decode cX5_arePrimesWithProduct 61 = .ok (.goto (-55), 3) := by decide +kernel
theorem dX5_arePrimesWithProduct_64 : decode cX5_arePrimesWithProduct 64 = .ok (.lload 5, 2) := by decide +kernel
theorem dX5_arePrimesWithProduct_66 : decode cX5_arePrimesWithProduct 66 = .ok (.lconst 1, 1) := by decide +kernel
theorem dX5_arePrimesWithProduct_67 : decode cX5_arePrimesWithProduct 67 = .ok (.lcmp, 1) := by decide +kernel
theorem dX5_arePrimesWithProduct_68 : decode cX5_arePrimesWithProduct 68 = .ok (.ifCond .ne 7, 3) := by decide +kernel
theorem dX5_arePrimesWithProduct_71 : decode cX5_arePrimesWithProduct 71 = .ok (.iconst 1, 1) := by decide +kernel
theorem dX5_arePrimesWithProduct_72 : decode cX5_arePrimesWithProduct 72 = .ok (.goto 4, 3) := by decide +kernel
theorem dX5_arePrimesWithProduct_75 : decode cX5_arePrimesWithProduct 75 = .ok (.iconst 0, 1) := by decide +kernel
theorem dX5_arePrimesWithProduct_76 : decode cX5_arePrimesWithProduct 76 = .ok (.ireturn, 1) := by decide +kernel
theorem dX5_isPrime_0 : decode cX5_isPrime 0 = .ok (.lload_n 0, 1) := by decide +kernel
theorem dX5_isPrime_1 : decode cX5_isPrime 1 = .ok (.ldc2_w 230, 3) := by decide +kernel
theorem dX5_isPrime_4 : decode cX5_isPrime 4 = .ok (.lcmp, 1) := by decide +kernel
theorem dX5_isPrime_5 : decode cX5_isPrime 5 = .ok (.ifCond .ge 17, 3) := by decide +kernel
theorem dX5_isPrime_8 : decode cX5_isPrime 8 = .ok (.lload_n 0, 1) := by decide +kernel
theorem dX5_isPrime_9 : decode cX5_isPrime 9 = .ok (.ldc2_w 224, 3) := by decide +kernel
theorem dX5_isPrime_12 : decode cX5_isPrime 12 = .ok (.lcmp, 1) := by decide +kernel
theorem dX5_isPrime_13 : decode cX5_isPrime 13 = .ok (.ifCond .lt 7, 3) := by decide +kernel
theorem dX5_isPrime_16 : decode cX5_isPrime 16 = .ok (.iconst 1, 1) := by decide +kernel
theorem dX5_isPrime_17 : decode cX5_isPrime 17 = .ok (.goto 4, 3) := by decide +kernel
theorem dX5_isPrime_20 : decode cX5_isPrime 20 = .ok (.iconst 0, 1) := by decide +kernel
theorem dX5_isPrime_21 : decode cX5_isPrime 21 = .ok (.ireturn, 1) := by decide +kernel
theorem dX5_isPrime_22 : decode cX5_isPrime 22 = .ok (.lload_n 0, 1) := by decide +kernel
theorem dX5_isPrime_23 : decode cX5_isPrime 23 = .ok (.ldc2_w 224, 3) := by decide +kernel
theorem dX5_isPrime_26 : decode cX5_isPrime 26 = .ok (.lrem, 1) := by decide +kernel
theorem dX5_isPrime_27 : decode cX5_isPrime 27 = .ok (.lconst 0, 1) := by decide +kernel
theorem dX5_isPrime_28 : decode cX5_isPrime 28 = .ok (.lcmp, 1) := by decide +kernel
theorem dX5_isPrime_29 : decode cX5_isPrime 29 = .ok (.ifCond .ne 5, 3) := by decide +kernel
theorem dX5_isPrime_32 : decode cX5_isPrime 32 = .ok (.iconst 0, 1) := by decide +kernel
theorem dX5_isPrime_33 : decode cX5_isPrime 33 = .ok (.ireturn, 1) := by decide +kernel
theorem dX5_isPrime_34 : decode cX5_isPrime 34 = .ok (.ldc2_w 232, 3) := by decide +kernel
theorem dX5_isPrime_37 : decode cX5_isPrime 37 = .ok (.lstore_n 2, 1) := by decide +kernel
theorem dX5_isPrime_38 : decode cX5_isPrime 38 = .ok (.lload_n 2, 1) := by decide +kernel
theorem dX5_isPrime_39 : decode cX5_isPrime 39 = .ok (.ldc2_w 234, 3) := by decide +kernel
theorem dX5_isPrime_42 : decode cX5_isPrime 42 = .ok (.lcmp, 1) := by decide +kernel
theorem dX5_isPrime_43 : decode cX5_isPrime 43 = .ok (.ifCond .gt 30, 3) := by decide +kernel
theorem dX5_isPrime_46 : decode cX5_isPrime 46 = .ok (.lload_n 2, 1) := by decide +kernel
theorem dX5_isPrime_47 : decode cX5_isPrime 47 = .ok (.lload_n 2, 1) := by decide +kernel
theorem dX5_isPrime_48 : decode cX5_isPrime 48 = .ok (.lmul, 1) := by decide +kernel
theorem dX5_isPrime_49 : decode cX5_isPrime 49 = .ok (.lload_n 0, 1) := by decide +kernel
theorem dX5_isPrime_50 : decode cX5_isPrime 50 = .ok (.lcmp, 1) := by decide +kernel
theorem dX5_isPrime_51 : decode cX5_isPrime 51 = .ok (.ifCond .gt 22, 3) := by decide +kernel
theorem dX5_isPrime_54 : decode cX5_isPrime 54 = .ok (.lload_n 0, 1) := by decide +kernel
theorem dX5_isPrime_55 : decode cX5_isPrime 55 = .ok (.lload_n 2, 1) := by decide +kernel
theorem dX5_isPrime_56 : decode cX5_isPrime 56 = .ok (.lrem, 1) := by decide +kernel
theorem dX5_isPrime_57 : decode cX5_isPrime 57 = .ok (.lconst 0, 1) := by decide +kernel
theorem dX5_isPrime_58 : decode cX5_isPrime 58 = .ok (.lcmp, 1) := by decide +kernel
theorem dX5_isPrime_59 : decode cX5_isPrime 59 = .ok (.ifCond .ne 5, 3) := by decide +kernel
theorem dX5_isPrime_62 : decode cX5_isPrime 62 = .ok (.iconst 0, 1) := by decide +kernel
theorem dX5_isPrime_63 : decode cX5_isPrime 63 = .ok (.ireturn, 1) := by decide +kernel
theorem dX5_isPrime_64 : decode cX5_isPrime 64 = .ok (.lload_n 2, 1) := by decide +kernel
theorem dX5_isPrime_65 : decode cX5_isPrime 65 = .ok (.ldc2_w 224, 3) := by decide +kernel
theorem dX5_isPrime_68 : decode cX5_isPrime 68 = .ok (.ladd, 1) := by decide +kernel
theorem dX5_isPrime_69 : decode cX5_isPrime 69 = .ok (.lstore_n 2, 1) := by decide +kernel
theorem dX5_isPrime_70 : decode cX5_isPrime 70 = .ok (.goto (-32), 3) := by decide +kernel
theorem dX5_isPrime_73 : decode cX5_isPrime 73 = .ok (.iconst 1, 1) := by decide +kernel
theorem dX5_isPrime_74 : decode cX5_isPrime 74 = .ok (.ireturn, 1) := by decide +kernel

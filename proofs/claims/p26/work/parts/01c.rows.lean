theorem dX0_init_0 : decode cX0_init 0 = .ok (.aload_n 0, 1) := by decide +kernel
theorem dX0_init_1 : decode cX0_init 1 = .ok (.invokespecial 3, 3) := by decide +kernel
theorem dX0_init_4 : decode cX0_init 4 = .ok (.aload_n 0, 1) := by decide +kernel
theorem dX0_init_5 : decode cX0_init 5 = .ok (.bipush 7, 2) := by decide +kernel
theorem dX0_init_7 : decode cX0_init 7 = .ok (.bipush 7, 2) := by decide +kernel
theorem dX0_init_9 : decode cX0_init 9 = .ok (.multianewarray 9 2, 4) := by decide +kernel
theorem dX0_init_13 : decode cX0_init 13 = .ok (.putfield 11, 3) := by decide +kernel
theorem dX0_init_16 : decode cX0_init 16 = .ok (.aload_n 0, 1) := by decide +kernel
theorem dX0_init_17 : decode cX0_init 17 = .ok (.iconst 0, 1) := by decide +kernel
theorem dX0_init_18 : decode cX0_init 18 = .ok (.putfield 16, 3) := by decide +kernel
theorem dX0_init_21 : decode cX0_init 21 = .ok (.return_, 1) := by decide +kernel
set_option maxRecDepth 20000 in
theorem ggX0_fill_X2_size : GoodIn wsX0_fill wsX2_size := goodIn_r _ [13, 14, 61, 62, 63, 64] (by decide +kernel) (by decide +kernel)
set_option maxRecDepth 20000 in
theorem gX0_fill_X2_size : GoodIn wsX0_fill (wsV RX0 20 RX2 yX2_size wsX2_size) := goodIn_app (goodIn_of _ (by decide +kernel)) ggX0_fill_X2_size
set_option maxRecDepth 20000 in
theorem ggX0_fill_X2_allows : GoodIn wsX0_fill wsX2_allows := goodIn_r _ [18, 19, 20, 21, 12, 22, 23, 24, 25, 26, 27, 28, 29, 30, 14, 61, 62, 63, 64] (by decide +kernel) (by decide +kernel)
set_option maxRecDepth 20000 in
theorem gX0_fill_X2_allows : GoodIn wsX0_fill (wsV RX0 34 RX2 yX2_allows wsX2_allows) := goodIn_app (goodIn_of _ (by decide +kernel)) ggX0_fill_X2_allows
set_option maxRecDepth 20000 in
theorem ggX0_fill_X5_ofArc : GoodIn wsX0_fill wsX5_ofArc := goodIn_r _ [35, 36, 37, 38, 12, 39, 40, 41, 42, 43, 44, 24, 25, 26, 45, 46, 47, 34, 48, 49, 50, 51, 52, 53, 54, 55, 56, 3, 57, 58, 2, 4, 61, 62, 63, 64, 65, 66, 67, 68, 69, 70, 71, 72] (by decide +kernel) (by decide +kernel)
set_option maxRecDepth 20000 in
theorem gX0_fill_X5_ofArc : GoodIn wsX0_fill (wsV RX0 38 RX5 yX5_ofArc wsX5_ofArc) := goodIn_app (goodIn_of _ (by decide +kernel)) ggX0_fill_X5_ofArc
theorem dX0_fill_0 : decode cX0_fill 0 = .ok (.aload_n 0, 1) := by decide +kernel
theorem dX0_fill_1 : decode cX0_fill 1 = .ok (.aload_n 1, 1) := by decide +kernel
theorem dX0_fill_2 : decode cX0_fill 2 = .ok (.invokevirtual 20, 3) := by decide +kernel
theorem dX0_fill_5 : decode cX0_fill 5 = .ok (.bipush 6, 2) := by decide +kernel
theorem dX0_fill_7 : decode cX0_fill 7 = .ok (.invokestatic 26, 3) := by decide +kernel
theorem dX0_fill_10 : decode cX0_fill 10 = .ok (.putfield 16, 3) := by decide +kernel
theorem dX0_fill_13 : decode cX0_fill 13 = .ok (.iconst 0, 1) := by decide +kernel
theorem dX0_fill_14 : decode cX0_fill 14 = .ok (.istore_n 3, 1) := by decide +kernel
theorem dX0_fill_15 : decode cX0_fill 15 = .ok (.iload_n 3, 1) := by decide +kernel
theorem dX0_fill_16 : decode cX0_fill 16 = .ok (.aload_n 0, 1) := by decide +kernel
theorem dX0_fill_17 : decode cX0_fill 17 = .ok (.getfield 16, 3) := by decide +kernel
theorem dX0_fill_20 : decode cX0_fill 20 = .ok (.if_icmp .gt 86, 3) := by decide +kernel
theorem dX0_fill_23 : decode cX0_fill 23 = .ok (.aload_n 0, 1) := by decide +kernel
theorem dX0_fill_24 : decode cX0_fill 24 = .ok (.getfield 11, 3) := by decide +kernel
theorem dX0_fill_27 : decode cX0_fill 27 = .ok (.iload_n 3, 1) := by decide +kernel
theorem dX0_fill_28 : decode cX0_fill 28 = .ok (.aaload, 1) := by decide +kernel
theorem dX0_fill_29 : decode cX0_fill 29 = .ok (.iconst 0, 1) := by decide +kernel
theorem dX0_fill_30 : decode cX0_fill 30 = .ok (.ldc2_w 32, 3) := by decide +kernel
theorem dX0_fill_33 : decode cX0_fill 33 = .ok (.lastore, 1) := by decide +kernel
theorem dX0_fill_34 : decode cX0_fill 34 = .ok (.iconst 1, 1) := by decide +kernel
theorem dX0_fill_35 : decode cX0_fill 35 = .ok (.istore 4, 2) := by decide +kernel
theorem dX0_fill_37 : decode cX0_fill 37 = .ok (.iload 4, 2) := by decide +kernel
theorem dX0_fill_39 : decode cX0_fill 39 = .ok (.aload_n 0, 1) := by decide +kernel
theorem dX0_fill_40 : decode cX0_fill 40 = .ok (.getfield 16, 3) := by decide +kernel
theorem dX0_fill_43 : decode cX0_fill 43 = .ok (.if_icmp .gt 57, 3) := by decide +kernel
theorem dX0_fill_46 : decode cX0_fill 46 = .ok (.aload_n 0, 1) := by decide +kernel
theorem dX0_fill_47 : decode cX0_fill 47 = .ok (.getfield 11, 3) := by decide +kernel
theorem dX0_fill_50 : decode cX0_fill 50 = .ok (.iload_n 3, 1) := by decide +kernel
theorem dX0_fill_51 : decode cX0_fill 51 = .ok (.aaload, 1) := by decide +kernel
theorem dX0_fill_52 : decode cX0_fill 52 = .ok (.iload 4, 2) := by decide +kernel
theorem dX0_fill_54 : decode cX0_fill 54 = .ok (.aload_n 1, 1) := by decide +kernel
theorem dX0_fill_55 : decode cX0_fill 55 = .ok (.iload_n 3, 1) := by decide +kernel
theorem dX0_fill_56 : decode cX0_fill 56 = .ok (.iload 4, 2) := by decide +kernel
theorem dX0_fill_58 : decode cX0_fill 58 = .ok (.invokevirtual 34, 3) := by decide +kernel
theorem dX0_fill_61 : decode cX0_fill 61 = .ok (.ifCond .eq 29, 3) := by decide +kernel
theorem dX0_fill_64 : decode cX0_fill 64 = .ok (.aload_n 2, 1) := by decide +kernel
theorem dX0_fill_65 : decode cX0_fill 65 = .ok (.aload_n 1, 1) := by decide +kernel
theorem dX0_fill_66 : decode cX0_fill 66 = .ok (.iload_n 3, 1) := by decide +kernel
theorem dX0_fill_67 : decode cX0_fill 67 = .ok (.iload 4, 2) := by decide +kernel
theorem dX0_fill_69 : decode cX0_fill 69 = .ok (.invokevirtual 38, 3) := by decide +kernel
theorem dX0_fill_72 : decode cX0_fill 72 = .ok (.i2l, 1) := by decide +kernel
theorem dX0_fill_73 : decode cX0_fill 73 = .ok (.ldc2_w 44, 3) := by decide +kernel
theorem dX0_fill_76 : decode cX0_fill 76 = .ok (.lmul, 1) := by decide +kernel
theorem dX0_fill_77 : decode cX0_fill 77 = .ok (.iload_n 3, 1) := by decide +kernel
theorem dX0_fill_78 : decode cX0_fill 78 = .ok (.i2l, 1) := by decide +kernel
theorem dX0_fill_79 : decode cX0_fill 79 = .ok (.getstatic 46, 3) := by decide +kernel
theorem dX0_fill_82 : decode cX0_fill 82 = .ok (.iload 4, 2) := by decide +kernel
theorem dX0_fill_84 : decode cX0_fill 84 = .ok (.laload, 1) := by decide +kernel
theorem dX0_fill_85 : decode cX0_fill 85 = .ok (.lmul, 1) := by decide +kernel
theorem dX0_fill_86 : decode cX0_fill 86 = .ok (.lsub, 1) := by decide +kernel
theorem dX0_fill_87 : decode cX0_fill 87 = .ok (.goto 6, 3) := by decide +kernel
theorem dX0_fill_90 : decode cX0_fill 90 = .ok (.ldc2_w 32, 3) := by decide +kernel
theorem dX0_fill_93 : decode cX0_fill 93 = .ok (.lastore, 1) := by decide +kernel
theorem dX0_fill_94 : decode cX0_fill 94 = .ok (.iinc 4 1, 3) := by decide +kernel
theorem dX0_fill_97 : decode cX0_fill 97 = .ok (.goto (-60), 3) := by decide +kernel
theorem dX0_fill_100 : decode cX0_fill 100 = .ok (.iinc 3 1, 3) := by decide +kernel
theorem dX0_fill_103 : decode cX0_fill 103 = .ok (.goto (-88), 3) := by decide +kernel
theorem dX0_fill_106 : decode cX0_fill 106 = .ok (.return_, 1) := by decide +kernel
theorem dX0_size_0 : decode cX0_size 0 = .ok (.aload_n 0, 1) := by decide +kernel
theorem dX0_size_1 : decode cX0_size 1 = .ok (.getfield 16, 3) := by decide +kernel
theorem dX0_size_4 : decode cX0_size 4 = .ok (.ireturn, 1) := by decide +kernel
set_option maxRecDepth 20000 in
theorem ggX0_get_X6_isPlace : GoodIn wsX0_get wsX6_isPlace := goodIn_r _ [5] (by decide +kernel) (by decide +kernel)
set_option maxRecDepth 20000 in
theorem gX0_get_X6_isPlace_n50 : GoodIn wsX0_get (wsX6_isPlace) := ggX0_get_X6_isPlace
theorem dX0_get_0 : decode cX0_get 0 = .ok (.iload_n 1, 1) := by decide +kernel
theorem dX0_get_1 : decode cX0_get 1 = .ok (.invokestatic 50, 3) := by decide +kernel
theorem dX0_get_4 : decode cX0_get 4 = .ok (.ifCond .eq 21, 3) := by decide +kernel
theorem dX0_get_7 : decode cX0_get 7 = .ok (.iload_n 2, 1) := by decide +kernel
theorem dX0_get_8 : decode cX0_get 8 = .ok (.invokestatic 50, 3) := by decide +kernel
theorem dX0_get_11 : decode cX0_get 11 = .ok (.ifCond .eq 14, 3) := by decide +kernel
theorem dX0_get_14 : decode cX0_get 14 = .ok (.aload_n 0, 1) := by decide +kernel
theorem dX0_get_15 : decode cX0_get 15 = .ok (.getfield 11, 3) := by decide +kernel
theorem dX0_get_18 : decode cX0_get 18 = .ok (.iload_n 1, 1) := by decide +kernel
theorem dX0_get_19 : decode cX0_get 19 = .ok (.aaload, 1) := by decide +kernel
theorem dX0_get_20 : decode cX0_get 20 = .ok (.iload_n 2, 1) := by decide +kernel
theorem dX0_get_21 : decode cX0_get 21 = .ok (.laload, 1) := by decide +kernel
theorem dX0_get_22 : decode cX0_get 22 = .ok (.goto 6, 3) := by decide +kernel
theorem dX0_get_25 : decode cX0_get 25 = .ok (.ldc2_w 32, 3) := by decide +kernel
theorem dX0_get_28 : decode cX0_get 28 = .ok (.lreturn, 1) := by decide +kernel
theorem dX1_init_0 : decode cX1_init 0 = .ok (.aload_n 0, 1) := by decide +kernel
theorem dX1_init_1 : decode cX1_init 1 = .ok (.invokespecial 3, 3) := by decide +kernel
theorem dX1_init_4 : decode cX1_init 4 = .ok (.aload_n 0, 1) := by decide +kernel
theorem dX1_init_5 : decode cX1_init 5 = .ok (.bipush 7, 2) := by decide +kernel
theorem dX1_init_7 : decode cX1_init 7 = .ok (.bipush 7, 2) := by decide +kernel
theorem dX1_init_9 : decode cX1_init 9 = .ok (.multianewarray 9 2, 4) := by decide +kernel
theorem dX1_init_13 : decode cX1_init 13 = .ok (.putfield 11, 3) := by decide +kernel
theorem dX1_init_16 : decode cX1_init 16 = .ok (.aload_n 0, 1) := by decide +kernel
theorem dX1_init_17 : decode cX1_init 17 = .ok (.bipush 7, 2) := by decide +kernel
theorem dX1_init_19 : decode cX1_init 19 = .ok (.bipush 7, 2) := by decide +kernel
theorem dX1_init_21 : decode cX1_init 21 = .ok (.multianewarray 9 2, 4) := by decide +kernel
theorem dX1_init_25 : decode cX1_init 25 = .ok (.putfield 16, 3) := by decide +kernel
theorem dX1_init_28 : decode cX1_init 28 = .ok (.aload_n 0, 1) := by decide +kernel
theorem dX1_init_29 : decode cX1_init 29 = .ok (.bipush 7, 2) := by decide +kernel
theorem dX1_init_31 : decode cX1_init 31 = .ok (.newarray .int, 2) := by decide +kernel
theorem dX1_init_33 : decode cX1_init 33 = .ok (.putfield 19, 3) := by decide +kernel
theorem dX1_init_36 : decode cX1_init 36 = .ok (.aload_n 0, 1) := by decide +kernel
theorem dX1_init_37 : decode cX1_init 37 = .ok (.bipush 7, 2) := by decide +kernel
theorem dX1_init_39 : decode cX1_init 39 = .ok (.newarray .int, 2) := by decide +kernel
theorem dX1_init_41 : decode cX1_init 41 = .ok (.putfield 23, 3) := by decide +kernel
theorem dX1_init_44 : decode cX1_init 44 = .ok (.aload_n 0, 1) := by decide +kernel
theorem dX1_init_45 : decode cX1_init 45 = .ok (.iconst 0, 1) := by decide +kernel
theorem dX1_init_46 : decode cX1_init 46 = .ok (.putfield 26, 3) := by decide +kernel
theorem dX1_init_49 : decode cX1_init 49 = .ok (.return_, 1) := by decide +kernel
set_option maxRecDepth 20000 in
theorem ggX1_greatest_X0_size : GoodIn wsX1_greatest wsX0_size := goodIn_r _ [12, 13, 67, 68] (by decide +kernel) (by decide +kernel)
set_option maxRecDepth 20000 in
theorem gX1_greatest_X0_size : GoodIn wsX1_greatest (wsV RX1 30 RX0 yX0_size wsX0_size) := goodIn_app (goodIn_of _ (by decide +kernel)) ggX1_greatest_X0_size
set_option maxRecDepth 20000 in
theorem ggX1_greatest_X0_get : GoodIn wsX1_greatest wsX0_get := goodIn_r _ [17, 18, 19, 20, 21, 22, 67, 68] (by decide +kernel) (by decide +kernel)
set_option maxRecDepth 20000 in
theorem gX1_greatest_X0_get : GoodIn wsX1_greatest (wsV RX1 42 RX0 yX0_get wsX0_get) := goodIn_app (goodIn_of _ (by decide +kernel)) ggX1_greatest_X0_get
set_option maxRecDepth 20000 in
theorem ggX1_greatest_X1_takeGreatest : GoodIn wsX1_greatest wsX1_takeGreatest := goodIn_r _ [27, 5, 28, 6, 7, 29, 30, 31, 26, 32, 33, 34, 35, 36, 20, 21, 22, 62, 63, 64, 65, 66] (by decide +kernel) (by decide +kernel)
set_option maxRecDepth 20000 in
theorem gX1_greatest_X1_takeGreatest : GoodIn wsX1_greatest (wsV RX1 46 RX1 yX1_takeGreatest wsX1_takeGreatest) := goodIn_app (goodIn_of _ (by decide +kernel)) ggX1_greatest_X1_takeGreatest
set_option maxRecDepth 20000 in
theorem ggX1_greatest_X1_findCircle : GoodIn wsX1_greatest wsX1_findCircle := goodIn_r _ [40, 5, 33, 34, 35, 26, 36, 28, 62, 63, 64, 65, 66] (by decide +kernel) (by decide +kernel)
set_option maxRecDepth 20000 in
theorem gX1_greatest_X1_findCircle : GoodIn wsX1_greatest (wsV RX1 52 RX1 yX1_findCircle wsX1_findCircle) := goodIn_app (goodIn_of _ (by decide +kernel)) ggX1_greatest_X1_findCircle
set_option maxRecDepth 20000 in
theorem ggX1_greatest_X1_contract : GoodIn wsX1_greatest wsX1_contract := goodIn_r _ [44, 45, 7, 5, 6, 46, 47, 48, 49, 26, 50, 1, 2, 3, 4, 51, 52, 53, 54, 20, 21, 22, 33, 34, 35, 36, 28, 55, 56, 57, 29, 30, 31, 32, 58, 59, 60, 61, 62, 63, 64, 65, 66] (by decide +kernel) (by decide +kernel)
set_option maxRecDepth 20000 in
theorem gX1_greatest_X1_contract : GoodIn wsX1_greatest (wsV RX1 55 RX1 yX1_contract wsX1_contract) := goodIn_app (goodIn_of _ (by decide +kernel)) ggX1_greatest_X1_contract
theorem dX1_greatest_0 : decode cX1_greatest 0 = .ok (.aload_n 0, 1) := by decide +kernel
theorem dX1_greatest_1 : decode cX1_greatest 1 = .ok (.aload_n 1, 1) := by decide +kernel
theorem dX1_greatest_2 : decode cX1_greatest 2 = .ok (.invokevirtual 30, 3) := by decide +kernel
theorem dX1_greatest_5 : decode cX1_greatest 5 = .ok (.iconst 1, 1) := by decide +kernel
theorem dX1_greatest_6 : decode cX1_greatest 6 = .ok (.iadd, 1) := by decide +kernel
theorem dX1_greatest_7 : decode cX1_greatest 7 = .ok (.bipush 7, 2) := by decide +kernel
theorem dX1_greatest_9 : decode cX1_greatest 9 = .ok (.invokestatic 36, 3) := by decide +kernel
theorem dX1_greatest_12 : decode cX1_greatest 12 = .ok (.putfield 26, 3) := by decide +kernel
theorem dX1_greatest_15 : decode cX1_greatest 15 = .ok (.iconst 0, 1) := by decide +kernel
theorem dX1_greatest_16 : decode cX1_greatest 16 = .ok (.istore_n 2, 1) := by decide +kernel
theorem dX1_greatest_17 : decode cX1_greatest 17 = .ok (.iload_n 2, 1) := by decide +kernel
theorem dX1_greatest_18 : decode cX1_greatest 18 = .ok (.aload_n 0, 1) := by decide +kernel
theorem dX1_greatest_19 : decode cX1_greatest 19 = .ok (.getfield 26, 3) := by decide +kernel
theorem dX1_greatest_22 : decode cX1_greatest 22 = .ok (.if_icmp .ge 39, 3) := by decide +kernel
theorem dX1_greatest_25 : decode cX1_greatest 25 = .ok (.iconst 0, 1) := by decide +kernel
theorem dX1_greatest_26 : decode cX1_greatest 26 = .ok (.istore_n 3, 1) := by decide +kernel
theorem dX1_greatest_27 : decode cX1_greatest 27 = .ok (.iload_n 3, 1) := by decide +kernel
theorem dX1_greatest_28 : decode cX1_greatest 28 = .ok (.aload_n 0, 1) := by decide +kernel
theorem dX1_greatest_29 : decode cX1_greatest 29 = .ok (.getfield 26, 3) := by decide +kernel
theorem dX1_greatest_32 : decode cX1_greatest 32 = .ok (.if_icmp .ge 23, 3) := by decide +kernel
theorem dX1_greatest_35 : decode cX1_greatest 35 = .ok (.aload_n 0, 1) := by decide +kernel
theorem dX1_greatest_36 : decode cX1_greatest 36 = .ok (.getfield 11, 3) := by decide +kernel
theorem dX1_greatest_39 : decode cX1_greatest 39 = .ok (.iload_n 2, 1) := by decide +kernel
theorem dX1_greatest_40 : decode cX1_greatest 40 = .ok (.aaload, 1) := by decide +kernel
theorem dX1_greatest_41 : decode cX1_greatest 41 = .ok (.iload_n 3, 1) := by decide +kernel
theorem dX1_greatest_42 : decode cX1_greatest 42 = .ok (.aload_n 1, 1) := by decide +kernel
theorem dX1_greatest_43 : decode cX1_greatest 43 = .ok (.iload_n 2, 1) := by decide +kernel
theorem dX1_greatest_44 : decode cX1_greatest 44 = .ok (.iload_n 3, 1) := by decide +kernel
theorem dX1_greatest_45 : decode cX1_greatest 45 = .ok (.invokevirtual 42, 3) := by decide +kernel
theorem dX1_greatest_48 : decode cX1_greatest 48 = .ok (.lastore, 1) := by decide +kernel
theorem dX1_greatest_49 : decode cX1_greatest 49 = .ok (.iinc 3 1, 3) := by decide +kernel
theorem dX1_greatest_52 : decode cX1_greatest 52 = .ok (.goto (-25), 3) := by decide +kernel
theorem dX1_greatest_55 : decode cX1_greatest 55 = .ok (.iinc 2 1, 3) := by decide +kernel
theorem dX1_greatest_58 : decode cX1_greatest 58 = .ok (.goto (-41), 3) := by decide +kernel
theorem dX1_greatest_61 : decode cX1_greatest 61 = .ok (.lconst 0, 1) := by decide +kernel
theorem dX1_greatest_62 : decode cX1_greatest 62 = .ok (.lstore_n 2, 1) := by decide +kernel
theorem dX1_greatest_63 : decode cX1_greatest 63 = .ok (.iconst 0, 1) := by decide +kernel
theorem dX1_greatest_64 : decode cX1_greatest 64 = .ok (.istore 4, 2) := by decide +kernel
theorem dX1_greatest_66 : decode cX1_greatest 66 = .ok (.iload 4, 2) := by decide +kernel
theorem dX1_greatest_68 : decode cX1_greatest 68 = .ok (.bipush 7, 2) := by decide +kernel
theorem dX1_greatest_70 : decode cX1_greatest 70 = .ok (.if_icmp .ge 52, 3) := by decide +kernel
theorem dX1_greatest_73 : decode cX1_greatest 73 = .ok (.aload_n 0, 1) := by decide +kernel
theorem dX1_greatest_74 : decode cX1_greatest 74 = .ok (.invokevirtual 46, 3) := by decide +kernel
theorem dX1_greatest_77 : decode cX1_greatest 77 = .ok (.lstore 5, 2) := by decide +kernel
theorem dX1_greatest_79 : decode cX1_greatest 79 = .ok (.lload 5, 2) := by decide +kernel
theorem dX1_greatest_81 : decode cX1_greatest 81 = .ok (.ldc2_w 50, 3) := by decide +kernel
theorem dX1_greatest_84 : decode cX1_greatest 84 = .ok (.lcmp, 1) := by decide +kernel
theorem dX1_greatest_85 : decode cX1_greatest 85 = .ok (.ifCond .ne 7, 3) := by decide +kernel
theorem dX1_greatest_88 : decode cX1_greatest 88 = .ok (.ldc2_w 50, 3) := by decide +kernel
theorem dX1_greatest_91 : decode cX1_greatest 91 = .ok (.lreturn, 1) := by decide +kernel
theorem dX1_greatest_92 : decode cX1_greatest 92 = .ok (.lload_n 2, 1) := by decide +kernel
theorem dX1_greatest_93 : decode cX1_greatest 93 = .ok (.lload 5, 2) := by decide +kernel
theorem dX1_greatest_95 : decode cX1_greatest 95 = .ok (.ladd, 1) := by decide +kernel
theorem dX1_greatest_96 : decode cX1_greatest 96 = .ok (.lstore_n 2, 1) := by decide +kernel
theorem dX1_greatest_97 : decode cX1_greatest 97 = .ok (.aload_n 0, 1) := by decide +kernel
theorem dX1_greatest_98 : decode cX1_greatest 98 = .ok (.invokevirtual 52, 3) := by decide +kernel
theorem dX1_greatest_101 : decode cX1_greatest 101 = .ok (.istore 7, 2) := by decide +kernel
theorem dX1_greatest_103 : decode cX1_greatest 103 = .ok (.iload 7, 2) := by decide +kernel
theorem dX1_greatest_105 : decode cX1_greatest 105 = .ok (.ifCond .ne 5, 3) := by decide +kernel
theorem dX1_greatest_108 : decode cX1_greatest 108 = .ok (.lload_n 2, 1) := by decide +kernel
theorem dX1_greatest_109 : decode cX1_greatest 109 = .ok (.lreturn, 1) := by decide +kernel
theorem dX1_greatest_110 : decode cX1_greatest 110 = .ok (.aload_n 0, 1) := by decide +kernel
theorem dX1_greatest_111 : decode cX1_greatest 111 = .ok (.iload 7, 2) := by decide +kernel
theorem dX1_greatest_113 : decode cX1_greatest 113 = .ok (.invokevirtual 55, 3) := by decide +kernel
theorem dX1_greatest_116 : decode cX1_greatest 116 = .ok (.iinc 4 1, 3) := by decide +kernel
theorem dX1_greatest_119 : decode cX1_greatest 119 = .ok (.goto (-53), 3) := by decide +kernel
theorem dX1_greatest_122 : decode cX1_greatest 122 = .ok (.ldc2_w 50, 3) := by decide +kernel
theorem dX1_greatest_125 : decode cX1_greatest 125 = .ok (.lreturn, 1) := by decide +kernel
set_option maxRecDepth 20000 in
theorem ggX1_takeGreatest_X1_takenKey : GoodIn wsX1_takeGreatest wsX1_takenKey := goodIn_r _ [9, 3, 4, 10, 11, 12, 8, 13, 1, 2, 14, 15, 16, 17, 18, 19, 20, 21] (by decide +kernel) (by decide +kernel)
set_option maxRecDepth 20000 in
theorem gX1_takeGreatest_X1_takenKey : GoodIn wsX1_takeGreatest (wsV RX1 59 RX1 yX1_takenKey wsX1_takenKey) := goodIn_app (goodIn_of _ (by decide +kernel)) ggX1_takeGreatest_X1_takenKey
theorem dX1_takeGreatest_0 : decode cX1_takeGreatest 0 = .ok (.lconst 0, 1) := by decide +kernel
theorem dX1_takeGreatest_1 : decode cX1_takeGreatest 1 = .ok (.lstore_n 1, 1) := by decide +kernel
theorem dX1_takeGreatest_2 : decode cX1_takeGreatest 2 = .ok (.iconst 1, 1) := by decide +kernel
theorem dX1_takeGreatest_3 : decode cX1_takeGreatest 3 = .ok (.istore_n 3, 1) := by decide +kernel
theorem dX1_takeGreatest_4 : decode cX1_takeGreatest 4 = .ok (.iload_n 3, 1) := by decide +kernel
theorem dX1_takeGreatest_5 : decode cX1_takeGreatest 5 = .ok (.aload_n 0, 1) := by decide +kernel
theorem dX1_takeGreatest_6 : decode cX1_takeGreatest 6 = .ok (.getfield 26, 3) := by decide +kernel
theorem dX1_takeGreatest_9 : decode cX1_takeGreatest 9 = .ok (.if_icmp .ge 84, 3) := by decide +kernel
theorem dX1_takeGreatest_12 : decode cX1_takeGreatest 12 = .ok (.aload_n 0, 1) := by decide +kernel
theorem dX1_takeGreatest_13 : decode cX1_takeGreatest 13 = .ok (.getfield 19, 3) := by decide +kernel
theorem dX1_takeGreatest_16 : decode cX1_takeGreatest 16 = .ok (.iload_n 3, 1) := by decide +kernel
theorem dX1_takeGreatest_17 : decode cX1_takeGreatest 17 = .ok (.iconst 0, 1) := by decide +kernel
theorem dX1_takeGreatest_18 : decode cX1_takeGreatest 18 = .ok (.iastore, 1) := by decide +kernel
theorem dX1_takeGreatest_19 : decode cX1_takeGreatest 19 = .ok (.iconst 1, 1) := by decide +kernel
theorem dX1_takeGreatest_20 : decode cX1_takeGreatest 20 = .ok (.istore 4, 2) := by decide +kernel
theorem dX1_takeGreatest_22 : decode cX1_takeGreatest 22 = .ok (.iload 4, 2) := by decide +kernel
theorem dX1_takeGreatest_24 : decode cX1_takeGreatest 24 = .ok (.aload_n 0, 1) := by decide +kernel
theorem dX1_takeGreatest_25 : decode cX1_takeGreatest 25 = .ok (.getfield 26, 3) := by decide +kernel
theorem dX1_takeGreatest_28 : decode cX1_takeGreatest 28 = .ok (.if_icmp .ge 35, 3) := by decide +kernel
theorem dX1_takeGreatest_31 : decode cX1_takeGreatest 31 = .ok (.aload_n 0, 1) := by decide +kernel
theorem dX1_takeGreatest_32 : decode cX1_takeGreatest 32 = .ok (.getfield 11, 3) := by decide +kernel
theorem dX1_takeGreatest_35 : decode cX1_takeGreatest 35 = .ok (.iload 4, 2) := by decide +kernel
theorem dX1_takeGreatest_37 : decode cX1_takeGreatest 37 = .ok (.aaload, 1) := by decide +kernel
theorem dX1_takeGreatest_38 : decode cX1_takeGreatest 38 = .ok (.iload_n 3, 1) := by decide +kernel
theorem dX1_takeGreatest_39 : decode cX1_takeGreatest 39 = .ok (.laload, 1) := by decide +kernel
theorem dX1_takeGreatest_40 : decode cX1_takeGreatest 40 = .ok (.aload_n 0, 1) := by decide +kernel
theorem dX1_takeGreatest_41 : decode cX1_takeGreatest 41 = .ok (.iload_n 3, 1) := by decide +kernel
theorem dX1_takeGreatest_42 : decode cX1_takeGreatest 42 = .ok (.invokevirtual 59, 3) := by decide +kernel
theorem dX1_takeGreatest_45 : decode cX1_takeGreatest 45 = .ok (.lcmp, 1) := by decide +kernel
theorem dX1_takeGreatest_46 : decode cX1_takeGreatest 46 = .ok (.ifCond .le 11, 3) := by decide +kernel
theorem dX1_takeGreatest_49 : decode cX1_takeGreatest 49 = .ok (.aload_n 0, 1) := by decide +kernel
theorem dX1_takeGreatest_50 : decode cX1_takeGreatest 50 = .ok (.getfield 19, 3) := by decide +kernel
theorem dX1_takeGreatest_53 : decode cX1_takeGreatest 53 = .ok (.iload_n 3, 1) := by decide +kernel
theorem dX1_takeGreatest_54 : decode cX1_takeGreatest 54 = .ok (.iload 4, 2) := by decide +kernel
theorem dX1_takeGreatest_56 : decode cX1_takeGreatest 56 = .ok (.iastore, 1) := by decide +kernel
theorem dX1_takeGreatest_57 : decode cX1_takeGreatest 57 = .ok (.iinc 4 1, 3) := by decide +kernel
theorem dX1_takeGreatest_60 : decode cX1_takeGreatest 60 = .ok (.goto (-38), 3) := by decide +kernel
theorem dX1_takeGreatest_63 : decode cX1_takeGreatest 63 = .ok (.aload_n 0, 1) := by decide +kernel
theorem dX1_takeGreatest_64 : decode cX1_takeGreatest 64 = .ok (.iload_n 3, 1) := by decide +kernel
theorem dX1_takeGreatest_65 : decode cX1_takeGreatest 65 = .ok (.invokevirtual 59, 3) := by decide +kernel
theorem dX1_takeGreatest_68 : decode cX1_takeGreatest 68 = .ok (.ldc2_w 50, 3) := by decide +kernel
theorem dX1_takeGreatest_71 : decode cX1_takeGreatest 71 = .ok (.lcmp, 1) := by decide +kernel
theorem dX1_takeGreatest_72 : decode cX1_takeGreatest 72 = .ok (.ifCond .ne 7, 3) := by decide +kernel
theorem dX1_takeGreatest_75 : decode cX1_takeGreatest 75 = .ok (.ldc2_w 50, 3) := by decide +kernel
theorem dX1_takeGreatest_78 : decode cX1_takeGreatest 78 = .ok (.lreturn, 1) := by decide +kernel
theorem dX1_takeGreatest_79 : decode cX1_takeGreatest 79 = .ok (.lload_n 1, 1) := by decide +kernel
theorem dX1_takeGreatest_80 : decode cX1_takeGreatest 80 = .ok (.aload_n 0, 1) := by decide +kernel
theorem dX1_takeGreatest_81 : decode cX1_takeGreatest 81 = .ok (.iload_n 3, 1) := by decide +kernel
theorem dX1_takeGreatest_82 : decode cX1_takeGreatest 82 = .ok (.invokevirtual 59, 3) := by decide +kernel
theorem dX1_takeGreatest_85 : decode cX1_takeGreatest 85 = .ok (.ladd, 1) := by decide +kernel
theorem dX1_takeGreatest_86 : decode cX1_takeGreatest 86 = .ok (.lstore_n 1, 1) := by decide +kernel
theorem dX1_takeGreatest_87 : decode cX1_takeGreatest 87 = .ok (.iinc 3 1, 3) := by decide +kernel
theorem dX1_takeGreatest_90 : decode cX1_takeGreatest 90 = .ok (.goto (-86), 3) := by decide +kernel
theorem dX1_takeGreatest_93 : decode cX1_takeGreatest 93 = .ok (.lload_n 1, 1) := by decide +kernel
theorem dX1_takeGreatest_94 : decode cX1_takeGreatest 94 = .ok (.lreturn, 1) := by decide +kernel
set_option maxRecDepth 20000 in
theorem ggX1_takenKey_X1_takenHead : GoodIn wsX1_takenKey wsX1_takenHead := goodIn_r _ [7, 8, 9, 13, 14, 15, 16, 17] (by decide +kernel) (by decide +kernel)
set_option maxRecDepth 20000 in
theorem gX1_takenKey_X1_takenHead : GoodIn wsX1_takenKey (wsV RX1 63 RX1 yX1_takenHead wsX1_takenHead) := goodIn_app (goodIn_of _ (by decide +kernel)) ggX1_takenKey_X1_takenHead
set_option maxRecDepth 20000 in
theorem ggX1_takenKey_X6_isPlace : GoodIn wsX1_takenKey wsX6_isPlace := goodIn_r _ [12] (by decide +kernel) (by decide +kernel)
set_option maxRecDepth 20000 in
theorem gX1_takenKey_X6_isPlace_n67 : GoodIn wsX1_takenKey (wsX6_isPlace) := ggX1_takenKey_X6_isPlace
theorem dX1_takenKey_0 : decode cX1_takenKey 0 = .ok (.aload_n 0, 1) := by decide +kernel
theorem dX1_takenKey_1 : decode cX1_takenKey 1 = .ok (.iload_n 1, 1) := by decide +kernel
theorem dX1_takenKey_2 : decode cX1_takenKey 2 = .ok (.invokevirtual 63, 3) := by decide +kernel
theorem dX1_takenKey_5 : decode cX1_takenKey 5 = .ok (.istore_n 2, 1) := by decide +kernel
theorem dX1_takenKey_6 : decode cX1_takenKey 6 = .ok (.iload_n 2, 1) := by decide +kernel
theorem dX1_takenKey_7 : decode cX1_takenKey 7 = .ok (.invokestatic 67, 3) := by decide +kernel
theorem dX1_takenKey_10 : decode cX1_takenKey 10 = .ok (.ifCond .eq 21, 3) := by decide +kernel
theorem dX1_takenKey_13 : decode cX1_takenKey 13 = .ok (.iload_n 1, 1) := by decide +kernel
theorem dX1_takenKey_14 : decode cX1_takenKey 14 = .ok (.invokestatic 67, 3) := by decide +kernel
theorem dX1_takenKey_17 : decode cX1_takenKey 17 = .ok (.ifCond .eq 14, 3) := by decide +kernel
theorem dX1_takenKey_20 : decode cX1_takenKey 20 = .ok (.aload_n 0, 1) := by decide +kernel
theorem dX1_takenKey_21 : decode cX1_takenKey 21 = .ok (.getfield 11, 3) := by decide +kernel
theorem dX1_takenKey_24 : decode cX1_takenKey 24 = .ok (.iload_n 2, 1) := by decide +kernel
theorem dX1_takenKey_25 : decode cX1_takenKey 25 = .ok (.aaload, 1) := by decide +kernel
theorem dX1_takenKey_26 : decode cX1_takenKey 26 = .ok (.iload_n 1, 1) := by decide +kernel
theorem dX1_takenKey_27 : decode cX1_takenKey 27 = .ok (.laload, 1) := by decide +kernel
theorem dX1_takenKey_28 : decode cX1_takenKey 28 = .ok (.goto 6, 3) := by decide +kernel
theorem dX1_takenKey_31 : decode cX1_takenKey 31 = .ok (.ldc2_w 50, 3) := by decide +kernel
theorem dX1_takenKey_34 : decode cX1_takenKey 34 = .ok (.lreturn, 1) := by decide +kernel
theorem dX1_takenHead_0 : decode cX1_takenHead 0 = .ok (.iload_n 1, 1) := by decide +kernel
theorem dX1_takenHead_1 : decode cX1_takenHead 1 = .ok (.ifCond .le 20, 3) := by decide +kernel
theorem dX1_takenHead_4 : decode cX1_takenHead 4 = .ok (.iload_n 1, 1) := by decide +kernel
theorem dX1_takenHead_5 : decode cX1_takenHead 5 = .ok (.aload_n 0, 1) := by decide +kernel
theorem dX1_takenHead_6 : decode cX1_takenHead 6 = .ok (.getfield 26, 3) := by decide +kernel
theorem dX1_takenHead_9 : decode cX1_takenHead 9 = .ok (.if_icmp .ge 12, 3) := by decide +kernel
theorem dX1_takenHead_12 : decode cX1_takenHead 12 = .ok (.aload_n 0, 1) := by decide +kernel
theorem dX1_takenHead_13 : decode cX1_takenHead 13 = .ok (.getfield 19, 3) := by decide +kernel
theorem dX1_takenHead_16 : decode cX1_takenHead 16 = .ok (.iload_n 1, 1) := by decide +kernel
theorem dX1_takenHead_17 : decode cX1_takenHead 17 = .ok (.iaload, 1) := by decide +kernel
theorem dX1_takenHead_18 : decode cX1_takenHead 18 = .ok (.goto 4, 3) := by decide +kernel
theorem dX1_takenHead_21 : decode cX1_takenHead 21 = .ok (.iconst 0, 1) := by decide +kernel
theorem dX1_takenHead_22 : decode cX1_takenHead 22 = .ok (.ireturn, 1) := by decide +kernel
set_option maxRecDepth 20000 in
theorem ggX1_findCircle_X1_takenHead : GoodIn wsX1_findCircle wsX1_takenHead := goodIn_r _ [6, 1, 7, 8, 9, 10, 11, 12] (by decide +kernel) (by decide +kernel)
set_option maxRecDepth 20000 in
theorem gX1_findCircle_X1_takenHead : GoodIn wsX1_findCircle (wsV RX1 63 RX1 yX1_takenHead wsX1_takenHead) := goodIn_app (goodIn_of _ (by decide +kernel)) ggX1_findCircle_X1_takenHead
theorem dX1_findCircle_0 : decode cX1_findCircle 0 = .ok (.iconst 1, 1) := by decide +kernel
theorem dX1_findCircle_1 : decode cX1_findCircle 1 = .ok (.istore_n 1, 1) := by decide +kernel
theorem dX1_findCircle_2 : decode cX1_findCircle 2 = .ok (.iload_n 1, 1) := by decide +kernel
theorem dX1_findCircle_3 : decode cX1_findCircle 3 = .ok (.aload_n 0, 1) := by decide +kernel
theorem dX1_findCircle_4 : decode cX1_findCircle 4 = .ok (.getfield 26, 3) := by decide +kernel
theorem dX1_findCircle_7 : decode cX1_findCircle 7 = .ok (.if_icmp .ge 39, 3) := by decide +kernel
theorem dX1_findCircle_10 : decode cX1_findCircle 10 = .ok (.iload_n 1, 1) := by decide +kernel
theorem dX1_findCircle_11 : decode cX1_findCircle 11 = .ok (.istore_n 2, 1) := by decide +kernel
theorem dX1_findCircle_12 : decode cX1_findCircle 12 = .ok (.iconst 0, 1) := by decide +kernel
theorem dX1_findCircle_13 : decode cX1_findCircle 13 = .ok (.istore_n 3, 1) := by decide +kernel
theorem dX1_findCircle_14 : decode cX1_findCircle 14 = .ok (.iload_n 3, 1) := by decide +kernel
theorem dX1_findCircle_15 : decode cX1_findCircle 15 = .ok (.aload_n 0, 1) := by decide +kernel
theorem dX1_findCircle_16 : decode cX1_findCircle 16 = .ok (.getfield 26, 3) := by decide +kernel
theorem dX1_findCircle_19 : decode cX1_findCircle 19 = .ok (.if_icmp .ge 15, 3) := by decide +kernel
theorem dX1_findCircle_22 : decode cX1_findCircle 22 = .ok (.aload_n 0, 1) := by decide +kernel
theorem dX1_findCircle_23 : decode cX1_findCircle 23 = .ok (.iload_n 2, 1) := by decide +kernel
theorem dX1_findCircle_24 : decode cX1_findCircle 24 = .ok (.invokevirtual 63, 3) := by decide +kernel
theorem dX1_findCircle_27 : decode cX1_findCircle 27 = .ok (.istore_n 2, 1) := by decide +kernel
theorem dX1_findCircle_28 : decode cX1_findCircle 28 = .ok (.iinc 3 1, 3) := by decide +kernel
theorem dX1_findCircle_31 : decode cX1_findCircle 31 = .ok (.goto (-17), 3) := by decide +kernel
theorem dX1_findCircle_34 : decode cX1_findCircle 34 = .ok (.iload_n 2, 1) := by decide +kernel
theorem dX1_findCircle_35 : decode cX1_findCircle 35 = .ok (.ifCond .eq 5, 3) := by decide +kernel
theorem dX1_findCircle_38 : decode cX1_findCircle 38 = .ok (.iload_n 2, 1) := by decide +kernel
theorem dX1_findCircle_39 : decode cX1_findCircle 39 = .ok (.ireturn, 1) := by decide +kernel
theorem dX1_findCircle_40 : decode cX1_findCircle 40 = .ok (.iinc 1 1, 3) := by decide +kernel
theorem dX1_findCircle_43 : decode cX1_findCircle 43 = .ok (.goto (-41), 3) := by decide +kernel
theorem dX1_findCircle_46 : decode cX1_findCircle 46 = .ok (.iconst 0, 1) := by decide +kernel
theorem dX1_findCircle_47 : decode cX1_findCircle 47 = .ok (.ireturn, 1) := by decide +kernel
set_option maxRecDepth 20000 in
theorem ggX1_contract_X1_groupNodes : GoodIn wsX1_contract wsX1_groupNodes := goodIn_r _ [10, 5, 3, 11, 12, 13, 14, 15, 16, 17, 18, 19, 20, 21, 22, 23, 24, 9, 25, 26, 38, 39, 40, 41, 42] (by decide +kernel) (by decide +kernel)
set_option maxRecDepth 20000 in
theorem gX1_contract_X1_groupNodes : GoodIn wsX1_contract (wsV RX1 71 RX1 yX1_groupNodes wsX1_groupNodes) := goodIn_app (goodIn_of _ (by decide +kernel)) ggX1_contract_X1_groupNodes
set_option maxRecDepth 20000 in
theorem ggX1_contract_J7_fill_d0a16 : GoodIn wsX1_contract wsJ7_fill_d0a16 := goodIn_r _ [29] (by decide +kernel) (by decide +kernel)
set_option maxRecDepth 20000 in
theorem gX1_contract_J7_fill_d0a16 : GoodIn wsX1_contract (va_wsS RX1 74 yJ7_fill_d0a16 wsJ7_fill_d0a16) := goodIn_app (goodIn_of _ (by decide +kernel)) ggX1_contract_J7_fill_d0a16
set_option maxRecDepth 20000 in
theorem ggX1_contract_X1_takenKey : GoodIn wsX1_contract wsX1_takenKey := goodIn_r _ [33, 4, 2, 22, 23, 24, 9, 25, 3, 26, 19, 20, 21, 38, 39, 40, 41, 42] (by decide +kernel) (by decide +kernel)
set_option maxRecDepth 20000 in
theorem gX1_contract_X1_takenKey : GoodIn wsX1_contract (wsV RX1 59 RX1 yX1_takenKey wsX1_takenKey) := goodIn_app (goodIn_of _ (by decide +kernel)) ggX1_contract_X1_takenKey
set_option maxRecDepth 20000 in
theorem ggX1_contract_X1_offer : GoodIn wsX1_contract wsX1_offer := goodIn_r _ [37, 1, 19, 20, 21, 38, 39, 40, 41, 42] (by decide +kernel) (by decide +kernel)
set_option maxRecDepth 20000 in
theorem gX1_contract_X1_offer : GoodIn wsX1_contract (wsV RX1 80 RX1 yX1_offer wsX1_offer) := goodIn_app (goodIn_of _ (by decide +kernel)) ggX1_contract_X1_offer
theorem dX1_contract_0 : decode cX1_contract 0 = .ok (.aload_n 0, 1) := by decide +kernel
theorem dX1_contract_1 : decode cX1_contract 1 = .ok (.iload_n 1, 1) := by decide +kernel
theorem dX1_contract_2 : decode cX1_contract 2 = .ok (.invokevirtual 71, 3) := by decide +kernel
theorem dX1_contract_5 : decode cX1_contract 5 = .ok (.istore_n 2, 1) := by decide +kernel
theorem dX1_contract_6 : decode cX1_contract 6 = .ok (.iconst 0, 1) := by decide +kernel
theorem dX1_contract_7 : decode cX1_contract 7 = .ok (.istore_n 3, 1) := by decide +kernel
theorem dX1_contract_8 : decode cX1_contract 8 = .ok (.iload_n 3, 1) := by decide +kernel
theorem dX1_contract_9 : decode cX1_contract 9 = .ok (.iload_n 2, 1) := by decide +kernel
theorem dX1_contract_10 : decode cX1_contract 10 = .ok (.if_icmp .ge 21, 3) := by decide +kernel
theorem dX1_contract_13 : decode cX1_contract 13 = .ok (.aload_n 0, 1) := by decide +kernel
theorem dX1_contract_14 : decode cX1_contract 14 = .ok (.getfield 16, 3) := by decide +kernel
theorem dX1_contract_17 : decode cX1_contract 17 = .ok (.iload_n 3, 1) := by decide +kernel
theorem dX1_contract_18 : decode cX1_contract 18 = .ok (.aaload, 1) := by decide +kernel
theorem dX1_contract_19 : decode cX1_contract 19 = .ok (.ldc2_w 50, 3) := by decide +kernel
theorem dX1_contract_22 : decode cX1_contract 22 = .ok (.invokestatic 74, 3) := by decide +kernel
theorem dX1_contract_25 : decode cX1_contract 25 = .ok (.iinc 3 1, 3) := by decide +kernel
theorem dX1_contract_28 : decode cX1_contract 28 = .ok (.goto (-20), 3) := by decide +kernel
theorem dX1_contract_31 : decode cX1_contract 31 = .ok (.iconst 1, 1) := by decide +kernel
theorem dX1_contract_32 : decode cX1_contract 32 = .ok (.istore_n 3, 1) := by decide +kernel
theorem dX1_contract_33 : decode cX1_contract 33 = .ok (.iload_n 3, 1) := by decide +kernel
theorem dX1_contract_34 : decode cX1_contract 34 = .ok (.aload_n 0, 1) := by decide +kernel
theorem dX1_contract_35 : decode cX1_contract 35 = .ok (.getfield 26, 3) := by decide +kernel
theorem dX1_contract_38 : decode cX1_contract 38 = .ok (.if_icmp .ge 79, 3) := by decide +kernel
theorem dX1_contract_41 : decode cX1_contract 41 = .ok (.aload_n 0, 1) := by decide +kernel
theorem dX1_contract_42 : decode cX1_contract 42 = .ok (.iload_n 3, 1) := by decide +kernel
theorem dX1_contract_43 : decode cX1_contract 43 = .ok (.invokevirtual 59, 3) := by decide +kernel
theorem dX1_contract_46 : decode cX1_contract 46 = .ok (.lstore 4, 2) := by decide +kernel
theorem dX1_contract_48 : decode cX1_contract 48 = .ok (.iconst 0, 1) := by decide +kernel
theorem dX1_contract_49 : decode cX1_contract 49 = .ok (.istore 6, 2) := by decide +kernel
theorem dX1_contract_51 : decode cX1_contract 51 = .ok (.iload 6, 2) := by decide +kernel
theorem dX1_contract_53 : decode cX1_contract 53 = .ok (.aload_n 0, 1) := by decide +kernel
theorem dX1_contract_54 : decode cX1_contract 54 = .ok (.getfield 26, 3) := by decide +kernel
theorem dX1_contract_57 : decode cX1_contract 57 = .ok (.if_icmp .ge 54, 3) := by decide +kernel
theorem dX1_contract_60 : decode cX1_contract 60 = .ok (.aload_n 0, 1) := by decide +kernel
theorem dX1_contract_61 : decode cX1_contract 61 = .ok (.getfield 11, 3) := by decide +kernel
theorem dX1_contract_64 : decode cX1_contract 64 = .ok (.iload 6, 2) := by decide +kernel
theorem dX1_contract_66 : decode cX1_contract 66 = .ok (.aaload, 1) := by decide +kernel
theorem dX1_contract_67 : decode cX1_contract 67 = .ok (.iload_n 3, 1) := by decide +kernel
theorem dX1_contract_68 : decode cX1_contract 68 = .ok (.laload, 1) := by decide +kernel
theorem dX1_contract_69 : decode cX1_contract 69 = .ok (.ldc2_w 50, 3) := by decide +kernel
theorem dX1_contract_72 : decode cX1_contract 72 = .ok (.lcmp, 1) := by decide +kernel
theorem dX1_contract_73 : decode cX1_contract 73 = .ok (.ifCond .eq 32, 3) := by decide +kernel
theorem dX1_contract_76 : decode cX1_contract 76 = .ok (.aload_n 0, 1) := by decide +kernel
theorem dX1_contract_77 : decode cX1_contract 77 = .ok (.aload_n 0, 1) := by decide +kernel
theorem dX1_contract_78 : decode cX1_contract 78 = .ok (.getfield 23, 3) := by decide +kernel
theorem dX1_contract_81 : decode cX1_contract 81 = .ok (.iload 6, 2) := by decide +kernel
theorem dX1_contract_83 : decode cX1_contract 83 = .ok (.iaload, 1) := by decide +kernel
theorem dX1_contract_84 : decode cX1_contract 84 = .ok (.aload_n 0, 1) := by decide +kernel
theorem dX1_contract_85 : decode cX1_contract 85 = .ok (.getfield 23, 3) := by decide +kernel
theorem dX1_contract_88 : decode cX1_contract 88 = .ok (.iload_n 3, 1) := by decide +kernel
theorem dX1_contract_89 : decode cX1_contract 89 = .ok (.iaload, 1) := by decide +kernel
theorem dX1_contract_90 : decode cX1_contract 90 = .ok (.aload_n 0, 1) := by decide +kernel
theorem dX1_contract_91 : decode cX1_contract 91 = .ok (.getfield 11, 3) := by decide +kernel
theorem dX1_contract_94 : decode cX1_contract 94 = .ok (.iload 6, 2) := by decide +kernel
theorem dX1_contract_96 : decode cX1_contract 96 = .ok (.aaload, 1) := by decide +kernel
theorem dX1_contract_97 : decode cX1_contract 97 = .ok (.iload_n 3, 1) := by decide +kernel
theorem dX1_contract_98 : decode cX1_contract 98 = .ok (.laload, 1) := by decide +kernel
theorem dX1_contract_99 : decode cX1_contract 99 = .ok (.lload 4, 2) := by decide +kernel
theorem dX1_contract_101 : decode cX1_contract 101 = .ok (.lsub, 1) := by decide +kernel
theorem dX1_contract_102 : decode cX1_contract 102 = .ok (.invokevirtual 80, 3) := by decide +kernel
theorem dX1_contract_105 : decode cX1_contract 105 = .ok (.iinc 6 1, 3) := by decide +kernel
theorem dX1_contract_108 : decode cX1_contract 108 = .ok (.goto (-57), 3) := by decide +kernel
theorem dX1_contract_111 : decode cX1_contract 111 = .ok (.iinc 3 1, 3) := by decide +kernel
theorem dX1_contract_114 : decode cX1_contract 114 = .ok (.goto (-81), 3) := by decide +kernel
theorem dX1_contract_117 : decode cX1_contract 117 = .ok (.aload_n 0, 1) := by decide +kernel
theorem dX1_contract_118 : decode cX1_contract 118 = .ok (.getfield 11, 3) := by decide +kernel
theorem dX1_contract_121 : decode cX1_contract 121 = .ok (.astore_n 3, 1) := by decide +kernel
theorem dX1_contract_122 : decode cX1_contract 122 = .ok (.aload_n 0, 1) := by decide +kernel
theorem dX1_contract_123 : decode cX1_contract 123 = .ok (.aload_n 0, 1) := by decide +kernel
theorem dX1_contract_124 : decode cX1_contract 124 = .ok (.getfield 16, 3) := by decide +kernel
theorem dX1_contract_127 : decode cX1_contract 127 = .ok (.putfield 11, 3) := by decide +kernel
theorem dX1_contract_130 : decode cX1_contract 130 = .ok (.aload_n 0, 1) := by decide +kernel
theorem dX1_contract_131 : decode cX1_contract 131 = .ok (.aload_n 3, 1) := by decide +kernel
theorem dX1_contract_132 : decode cX1_contract 132 = .ok (.putfield 16, 3) := by decide +kernel
theorem dX1_contract_135 : decode cX1_contract 135 = .ok (.aload_n 0, 1) := by decide +kernel
theorem dX1_contract_136 : decode cX1_contract 136 = .ok (.iload_n 2, 1) := by decide +kernel
theorem dX1_contract_137 : decode cX1_contract 137 = .ok (.putfield 26, 3) := by decide +kernel
theorem dX1_contract_140 : decode cX1_contract 140 = .ok (.return_, 1) := by decide +kernel
set_option maxRecDepth 20000 in
theorem ggX1_groupNodes_J7_fill_53178 : GoodIn wsX1_groupNodes wsJ7_fill_53178 := goodIn_r _ [10] (by decide +kernel) (by decide +kernel)
set_option maxRecDepth 20000 in
theorem gX1_groupNodes_J7_fill_53178 : GoodIn wsX1_groupNodes (va_wsS RX1 84 yJ7_fill_53178 wsJ7_fill_53178) := goodIn_app (goodIn_of _ (by decide +kernel)) ggX1_groupNodes_J7_fill_53178
set_option maxRecDepth 20000 in
theorem ggX1_groupNodes_X6_isPlace : GoodIn wsX1_groupNodes wsX6_isPlace := goodIn_r _ [13] (by decide +kernel) (by decide +kernel)
set_option maxRecDepth 20000 in
theorem gX1_groupNodes_X6_isPlace_n67 : GoodIn wsX1_groupNodes (wsX6_isPlace) := ggX1_groupNodes_X6_isPlace
set_option maxRecDepth 20000 in
theorem ggX1_groupNodes_X1_takenHead : GoodIn wsX1_groupNodes wsX1_takenHead := goodIn_r _ [18, 2, 19, 20, 21, 22, 23, 24] (by decide +kernel) (by decide +kernel)
set_option maxRecDepth 20000 in
theorem gX1_groupNodes_X1_takenHead : GoodIn wsX1_groupNodes (wsV RX1 63 RX1 yX1_takenHead wsX1_takenHead) := goodIn_app (goodIn_of _ (by decide +kernel)) ggX1_groupNodes_X1_takenHead
theorem dX1_groupNodes_0 : decode cX1_groupNodes 0 = .ok (.aload_n 0, 1) := by decide +kernel
theorem dX1_groupNodes_1 : decode cX1_groupNodes 1 = .ok (.getfield 23, 3) := by decide +kernel
theorem dX1_groupNodes_4 : decode cX1_groupNodes 4 = .ok (.iconst 0, 1) := by decide +kernel
theorem dX1_groupNodes_5 : decode cX1_groupNodes 5 = .ok (.invokestatic 84, 3) := by decide +kernel
theorem dX1_groupNodes_8 : decode cX1_groupNodes 8 = .ok (.iload_n 1, 1) := by decide +kernel
theorem dX1_groupNodes_9 : decode cX1_groupNodes 9 = .ok (.istore_n 2, 1) := by decide +kernel
theorem dX1_groupNodes_10 : decode cX1_groupNodes 10 = .ok (.iconst 0, 1) := by decide +kernel
theorem dX1_groupNodes_11 : decode cX1_groupNodes 11 = .ok (.istore_n 3, 1) := by decide +kernel
theorem dX1_groupNodes_12 : decode cX1_groupNodes 12 = .ok (.iload_n 3, 1) := by decide +kernel
theorem dX1_groupNodes_13 : decode cX1_groupNodes 13 = .ok (.aload_n 0, 1) := by decide +kernel
theorem dX1_groupNodes_14 : decode cX1_groupNodes 14 = .ok (.getfield 26, 3) := by decide +kernel
theorem dX1_groupNodes_17 : decode cX1_groupNodes 17 = .ok (.if_icmp .ge 29, 3) := by decide +kernel
theorem dX1_groupNodes_20 : decode cX1_groupNodes 20 = .ok (.iload_n 2, 1) := by decide +kernel
theorem dX1_groupNodes_21 : decode cX1_groupNodes 21 = .ok (.invokestatic 67, 3) := by decide +kernel
theorem dX1_groupNodes_24 : decode cX1_groupNodes 24 = .ok (.ifCond .eq 22, 3) := by decide +kernel
theorem dX1_groupNodes_27 : decode cX1_groupNodes 27 = .ok (.aload_n 0, 1) := by decide +kernel
theorem dX1_groupNodes_28 : decode cX1_groupNodes 28 = .ok (.getfield 23, 3) := by decide +kernel
theorem dX1_groupNodes_31 : decode cX1_groupNodes 31 = .ok (.iload_n 2, 1) := by decide +kernel
theorem dX1_groupNodes_32 : decode cX1_groupNodes 32 = .ok (.iconst (-1), 1) := by decide +kernel
theorem dX1_groupNodes_33 : decode cX1_groupNodes 33 = .ok (.iastore, 1) := by decide +kernel
theorem dX1_groupNodes_34 : decode cX1_groupNodes 34 = .ok (.aload_n 0, 1) := by decide +kernel
theorem dX1_groupNodes_35 : decode cX1_groupNodes 35 = .ok (.iload_n 2, 1) := by decide +kernel
theorem dX1_groupNodes_36 : decode cX1_groupNodes 36 = .ok (.invokevirtual 63, 3) := by decide +kernel
theorem dX1_groupNodes_39 : decode cX1_groupNodes 39 = .ok (.istore_n 2, 1) := by decide +kernel
theorem dX1_groupNodes_40 : decode cX1_groupNodes 40 = .ok (.iinc 3 1, 3) := by decide +kernel
theorem dX1_groupNodes_43 : decode cX1_groupNodes 43 = .ok (.goto (-31), 3) := by decide +kernel
theorem dX1_groupNodes_46 : decode cX1_groupNodes 46 = .ok (.iconst 0, 1) := by decide +kernel
theorem dX1_groupNodes_47 : decode cX1_groupNodes 47 = .ok (.istore_n 3, 1) := by decide +kernel
theorem dX1_groupNodes_48 : decode cX1_groupNodes 48 = .ok (.iconst 0, 1) := by decide +kernel
theorem dX1_groupNodes_49 : decode cX1_groupNodes 49 = .ok (.istore 4, 2) := by decide +kernel
theorem dX1_groupNodes_51 : decode cX1_groupNodes 51 = .ok (.iload 4, 2) := by decide +kernel
theorem dX1_groupNodes_53 : decode cX1_groupNodes 53 = .ok (.aload_n 0, 1) := by decide +kernel
theorem dX1_groupNodes_54 : decode cX1_groupNodes 54 = .ok (.getfield 26, 3) := by decide +kernel
theorem dX1_groupNodes_57 : decode cX1_groupNodes 57 = .ok (.if_icmp .ge 31, 3) := by decide +kernel
theorem dX1_groupNodes_60 : decode cX1_groupNodes 60 = .ok (.aload_n 0, 1) := by decide +kernel
theorem dX1_groupNodes_61 : decode cX1_groupNodes 61 = .ok (.getfield 23, 3) := by decide +kernel
theorem dX1_groupNodes_64 : decode cX1_groupNodes 64 = .ok (.iload 4, 2) := by decide +kernel
theorem dX1_groupNodes_66 : decode cX1_groupNodes 66 = .ok (.iaload, 1) := by decide +kernel
theorem dX1_groupNodes_67 : decode cX1_groupNodes 67 = .ok (.iconst (-1), 1) := by decide +kernel
theorem dX1_groupNodes_68 : decode cX1_groupNodes 68 = .ok (.if_icmp .eq 14, 3) := by decide +kernel
theorem dX1_groupNodes_71 : decode cX1_groupNodes 71 = .ok (.aload_n 0, 1) := by decide +kernel
theorem dX1_groupNodes_72 : decode cX1_groupNodes 72 = .ok (.getfield 23, 3) := by decide +kernel
theorem dX1_groupNodes_75 : decode cX1_groupNodes 75 = .ok (.iload 4, 2) := by decide +kernel
theorem dX1_groupNodes_77 : decode cX1_groupNodes 77 = .ok (.iload_n 3, 1) := by decide +kernel
theorem dX1_groupNodes_78 : decode cX1_groupNodes 78 = .ok (.iastore, 1) := by decide +kernel
theorem dX1_groupNodes_79 : decode cX1_groupNodes 79 = .ok (.iinc 3 1, 3) := by decide +kernel
theorem dX1_groupNodes_82 : decode cX1_groupNodes 82 = .ok (.iinc 4 1, 3) := by decide +kernel
theorem dX1_groupNodes_85 : decode cX1_groupNodes 85 = .ok (.goto (-34), 3) := by decide +kernel
theorem dX1_groupNodes_88 : decode cX1_groupNodes 88 = .ok (.iconst 0, 1) := by decide +kernel
theorem dX1_groupNodes_89 : decode cX1_groupNodes 89 = .ok (.istore 4, 2) := by decide +kernel
theorem dX1_groupNodes_91 : decode cX1_groupNodes 91 = .ok (.iload 4, 2) := by decide +kernel
theorem dX1_groupNodes_93 : decode cX1_groupNodes 93 = .ok (.aload_n 0, 1) := by decide +kernel
theorem dX1_groupNodes_94 : decode cX1_groupNodes 94 = .ok (.getfield 26, 3) := by decide +kernel
theorem dX1_groupNodes_97 : decode cX1_groupNodes 97 = .ok (.if_icmp .ge 28, 3) := by decide +kernel
theorem dX1_groupNodes_100 : decode cX1_groupNodes 100 = .ok (.aload_n 0, 1) := by decide +kernel
theorem dX1_groupNodes_101 : decode cX1_groupNodes 101 = .ok (.getfield 23, 3) := by decide +kernel
theorem dX1_groupNodes_104 : decode cX1_groupNodes 104 = .ok (.iload 4, 2) := by decide +kernel
theorem dX1_groupNodes_106 : decode cX1_groupNodes 106 = .ok (.iaload, 1) := by decide +kernel
theorem dX1_groupNodes_107 : decode cX1_groupNodes 107 = .ok (.iconst (-1), 1) := by decide +kernel
theorem dX1_groupNodes_108 : decode cX1_groupNodes 108 = .ok (.if_icmp .ne 11, 3) := by decide +kernel
theorem dX1_groupNodes_111 : decode cX1_groupNodes 111 = .ok (.aload_n 0, 1) := by decide +kernel
theorem dX1_groupNodes_112 : decode cX1_groupNodes 112 = .ok (.getfield 23, 3) := by decide +kernel
theorem dX1_groupNodes_115 : decode cX1_groupNodes 115 = .ok (.iload 4, 2) := by decide +kernel
theorem dX1_groupNodes_117 : decode cX1_groupNodes 117 = .ok (.iload_n 3, 1) := by decide +kernel
theorem dX1_groupNodes_118 : decode cX1_groupNodes 118 = .ok (.iastore, 1) := by decide +kernel
theorem dX1_groupNodes_119 : decode cX1_groupNodes 119 = .ok (.iinc 4 1, 3) := by decide +kernel
theorem dX1_groupNodes_122 : decode cX1_groupNodes 122 = .ok (.goto (-31), 3) := by decide +kernel
theorem dX1_groupNodes_125 : decode cX1_groupNodes 125 = .ok (.iload_n 3, 1) := by decide +kernel
theorem dX1_groupNodes_126 : decode cX1_groupNodes 126 = .ok (.iconst 1, 1) := by decide +kernel
theorem dX1_groupNodes_127 : decode cX1_groupNodes 127 = .ok (.iadd, 1) := by decide +kernel
theorem dX1_groupNodes_128 : decode cX1_groupNodes 128 = .ok (.aload_n 0, 1) := by decide +kernel
theorem dX1_groupNodes_129 : decode cX1_groupNodes 129 = .ok (.getfield 26, 3) := by decide +kernel
theorem dX1_groupNodes_132 : decode cX1_groupNodes 132 = .ok (.invokestatic 36, 3) := by decide +kernel
theorem dX1_groupNodes_135 : decode cX1_groupNodes 135 = .ok (.ireturn, 1) := by decide +kernel
set_option maxRecDepth 20000 in
theorem ggX1_offer_X6_isPlace : GoodIn wsX1_offer wsX6_isPlace := goodIn_r _ [4] (by decide +kernel) (by decide +kernel)
set_option maxRecDepth 20000 in
theorem gX1_offer_X6_isPlace_n67 : GoodIn wsX1_offer (wsX6_isPlace) := ggX1_offer_X6_isPlace
theorem dX1_offer_0 : decode cX1_offer 0 = .ok (.iload_n 1, 1) := by decide +kernel
theorem dX1_offer_1 : decode cX1_offer 1 = .ok (.iload_n 2, 1) := by decide +kernel
theorem dX1_offer_2 : decode cX1_offer 2 = .ok (.if_icmp .eq 39, 3) := by decide +kernel
theorem dX1_offer_5 : decode cX1_offer 5 = .ok (.iload_n 1, 1) := by decide +kernel
theorem dX1_offer_6 : decode cX1_offer 6 = .ok (.invokestatic 67, 3) := by decide +kernel
theorem dX1_offer_9 : decode cX1_offer 9 = .ok (.ifCond .eq 32, 3) := by decide +kernel
theorem dX1_offer_12 : decode cX1_offer 12 = .ok (.iload_n 2, 1) := by decide +kernel
theorem dX1_offer_13 : decode cX1_offer 13 = .ok (.invokestatic 67, 3) := by decide +kernel
theorem dX1_offer_16 : decode cX1_offer 16 = .ok (.ifCond .eq 25, 3) := by decide +kernel
theorem dX1_offer_19 : decode cX1_offer 19 = .ok (.lload_n 3, 1) := by decide +kernel
theorem dX1_offer_20 : decode cX1_offer 20 = .ok (.aload_n 0, 1) := by decide +kernel
theorem dX1_offer_21 : decode cX1_offer 21 = .ok (.getfield 16, 3) := by decide +kernel
theorem dX1_offer_24 : decode cX1_offer 24 = .ok (.iload_n 1, 1) := by decide +kernel
theorem dX1_offer_25 : decode cX1_offer 25 = .ok (.aaload, 1) := by decide +kernel
theorem dX1_offer_26 : decode cX1_offer 26 = .ok (.iload_n 2, 1) := by decide +kernel
theorem dX1_offer_27 : decode cX1_offer 27 = .ok (.laload, 1) := by decide +kernel
theorem dX1_offer_28 : decode cX1_offer 28 = .ok (.lcmp, 1) := by decide +kernel
theorem dX1_offer_29 : decode cX1_offer 29 = .ok (.ifCond .le 12, 3) := by decide +kernel
theorem dX1_offer_32 : decode cX1_offer 32 = .ok (.aload_n 0, 1) := by decide +kernel
theorem dX1_offer_33 : decode cX1_offer 33 = .ok (.getfield 16, 3) := by decide +kernel
theorem dX1_offer_36 : decode cX1_offer 36 = .ok (.iload_n 1, 1) := by decide +kernel
theorem dX1_offer_37 : decode cX1_offer 37 = .ok (.aaload, 1) := by decide +kernel
theorem dX1_offer_38 : decode cX1_offer 38 = .ok (.iload_n 2, 1) := by decide +kernel
theorem dX1_offer_39 : decode cX1_offer 39 = .ok (.lload_n 3, 1) := by decide +kernel
theorem dX1_offer_40 : decode cX1_offer 40 = .ok (.lastore, 1) := by decide +kernel
theorem dX1_offer_41 : decode cX1_offer 41 = .ok (.return_, 1) := by decide +kernel
set_option maxRecDepth 20000 in
theorem ggX2_init_J7_fill_53178 : GoodIn wsX2_init wsJ7_fill_53178 := goodIn_r _ [13] (by decide +kernel) (by decide +kernel)
set_option maxRecDepth 20000 in
theorem gX2_init_J7_fill_53178 : GoodIn wsX2_init (va_wsS RX2 27 yJ7_fill_53178 wsJ7_fill_53178) := goodIn_app (goodIn_of _ (by decide +kernel)) ggX2_init_J7_fill_53178
theorem dX2_init_0 : decode cX2_init 0 = .ok (.aload_n 0, 1) := by decide +kernel
theorem dX2_init_1 : decode cX2_init 1 = .ok (.invokespecial 3, 3) := by decide +kernel
theorem dX2_init_4 : decode cX2_init 4 = .ok (.aload_n 0, 1) := by decide +kernel
theorem dX2_init_5 : decode cX2_init 5 = .ok (.bipush 7, 2) := by decide +kernel
theorem dX2_init_7 : decode cX2_init 7 = .ok (.newarray .int, 2) := by decide +kernel
theorem dX2_init_9 : decode cX2_init 9 = .ok (.putfield 9, 3) := by decide +kernel
theorem dX2_init_12 : decode cX2_init 12 = .ok (.aload_n 0, 1) := by decide +kernel
theorem dX2_init_13 : decode cX2_init 13 = .ok (.bipush 7, 2) := by decide +kernel
theorem dX2_init_15 : decode cX2_init 15 = .ok (.newarray .int, 2) := by decide +kernel
theorem dX2_init_17 : decode cX2_init 17 = .ok (.putfield 15, 3) := by decide +kernel
theorem dX2_init_20 : decode cX2_init 20 = .ok (.aload_n 0, 1) := by decide +kernel
theorem dX2_init_21 : decode cX2_init 21 = .ok (.bipush 7, 2) := by decide +kernel
theorem dX2_init_23 : decode cX2_init 23 = .ok (.bipush 7, 2) := by decide +kernel
theorem dX2_init_25 : decode cX2_init 25 = .ok (.multianewarray 18 2, 4) := by decide +kernel
theorem dX2_init_29 : decode cX2_init 29 = .ok (.putfield 20, 3) := by decide +kernel
theorem dX2_init_32 : decode cX2_init 32 = .ok (.aload_n 0, 1) := by decide +kernel
theorem dX2_init_33 : decode cX2_init 33 = .ok (.iconst 0, 1) := by decide +kernel
theorem dX2_init_34 : decode cX2_init 34 = .ok (.putfield 23, 3) := by decide +kernel
theorem dX2_init_37 : decode cX2_init 37 = .ok (.aload_n 0, 1) := by decide +kernel
theorem dX2_init_38 : decode cX2_init 38 = .ok (.getfield 9, 3) := by decide +kernel
theorem dX2_init_41 : decode cX2_init 41 = .ok (.iconst 0, 1) := by decide +kernel
theorem dX2_init_42 : decode cX2_init 42 = .ok (.iconst 4, 1) := by decide +kernel
theorem dX2_init_43 : decode cX2_init 43 = .ok (.iastore, 1) := by decide +kernel
theorem dX2_init_44 : decode cX2_init 44 = .ok (.aload_n 0, 1) := by decide +kernel
theorem dX2_init_45 : decode cX2_init 45 = .ok (.getfield 15, 3) := by decide +kernel
theorem dX2_init_48 : decode cX2_init 48 = .ok (.iconst (-1), 1) := by decide +kernel
theorem dX2_init_49 : decode cX2_init 49 = .ok (.invokestatic 27, 3) := by decide +kernel
theorem dX2_init_52 : decode cX2_init 52 = .ok (.return_, 1) := by decide +kernel
theorem dX2_size_0 : decode cX2_size 0 = .ok (.aload_n 0, 1) := by decide +kernel
theorem dX2_size_1 : decode cX2_size 1 = .ok (.getfield 23, 3) := by decide +kernel
theorem dX2_size_4 : decode cX2_size 4 = .ok (.ireturn, 1) := by decide +kernel
theorem dX2_append_0 : decode cX2_append 0 = .ok (.aload_n 0, 1) := by decide +kernel
theorem dX2_append_1 : decode cX2_append 1 = .ok (.getfield 23, 3) := by decide +kernel
theorem dX2_append_4 : decode cX2_append 4 = .ok (.bipush 6, 2) := by decide +kernel
theorem dX2_append_6 : decode cX2_append 6 = .ok (.if_icmp .ge 23, 3) := by decide +kernel
theorem dX2_append_9 : decode cX2_append 9 = .ok (.aload_n 0, 1) := by decide +kernel
theorem dX2_append_10 : decode cX2_append 10 = .ok (.dup, 1) := by decide +kernel
theorem dX2_append_11 : decode cX2_append 11 = .ok (.getfield 23, 3) := by decide +kernel
theorem dX2_append_14 : decode cX2_append 14 = .ok (.iconst 1, 1) := by decide +kernel
theorem dX2_append_15 : decode cX2_append 15 = .ok (.iadd, 1) := by decide +kernel
theorem dX2_append_16 : decode cX2_append 16 = .ok (.putfield 23, 3) := by decide +kernel
theorem dX2_append_19 : decode cX2_append 19 = .ok (.aload_n 0, 1) := by decide +kernel
theorem dX2_append_20 : decode cX2_append 20 = .ok (.getfield 9, 3) := by decide +kernel
theorem dX2_append_23 : decode cX2_append 23 = .ok (.aload_n 0, 1) := by decide +kernel
theorem dX2_append_24 : decode cX2_append 24 = .ok (.getfield 23, 3) := by decide +kernel
theorem dX2_append_27 : decode cX2_append 27 = .ok (.iload_n 1, 1) := by decide +kernel
theorem dX2_append_28 : decode cX2_append 28 = .ok (.iastore, 1) := by decide +kernel
theorem dX2_append_29 : decode cX2_append 29 = .ok (.return_, 1) := by decide +kernel
set_option maxRecDepth 20000 in
theorem ggX2_kindAt_X6_isPlace : GoodIn wsX2_kindAt wsX6_isPlace := goodIn_r _ [4] (by decide +kernel) (by decide +kernel)
set_option maxRecDepth 20000 in
theorem gX2_kindAt_X6_isPlace_n33 : GoodIn wsX2_kindAt (wsX6_isPlace) := ggX2_kindAt_X6_isPlace
theorem dX2_kindAt_0 : decode cX2_kindAt 0 = .ok (.iload_n 1, 1) := by decide +kernel
theorem dX2_kindAt_1 : decode cX2_kindAt 1 = .ok (.invokestatic 33, 3) := by decide +kernel
theorem dX2_kindAt_4 : decode cX2_kindAt 4 = .ok (.ifCond .eq 12, 3) := by decide +kernel
theorem dX2_kindAt_7 : decode cX2_kindAt 7 = .ok (.aload_n 0, 1) := by decide +kernel
theorem dX2_kindAt_8 : decode cX2_kindAt 8 = .ok (.getfield 9, 3) := by decide +kernel
theorem dX2_kindAt_11 : decode cX2_kindAt 11 = .ok (.iload_n 1, 1) := by decide +kernel
theorem dX2_kindAt_12 : decode cX2_kindAt 12 = .ok (.iaload, 1) := by decide +kernel
theorem dX2_kindAt_13 : decode cX2_kindAt 13 = .ok (.goto 4, 3) := by decide +kernel
theorem dX2_kindAt_16 : decode cX2_kindAt 16 = .ok (.iconst (-1), 1) := by decide +kernel
theorem dX2_kindAt_17 : decode cX2_kindAt 17 = .ok (.ireturn, 1) := by decide +kernel
set_option maxRecDepth 20000 in
theorem ggX2_byKinds_X2_kindAt : GoodIn wsX2_byKinds wsX2_kindAt := goodIn_r _ [5, 6, 7, 8, 9, 10, 11, 12, 13] (by decide +kernel) (by decide +kernel)
set_option maxRecDepth 20000 in
theorem gX2_byKinds_X2_kindAt : GoodIn wsX2_byKinds (wsV RX2 37 RX2 yX2_kindAt wsX2_kindAt) := goodIn_app (goodIn_of _ (by decide +kernel)) ggX2_byKinds_X2_kindAt
theorem dX2_byKinds_0 : decode cX2_byKinds 0 = .ok (.iconst 4, 1) := by decide +kernel
theorem dX2_byKinds_1 : decode cX2_byKinds 1 = .ok (.aload_n 0, 1) := by decide +kernel
theorem dX2_byKinds_2 : decode cX2_byKinds 2 = .ok (.iload_n 1, 1) := by decide +kernel
theorem dX2_byKinds_3 : decode cX2_byKinds 3 = .ok (.invokevirtual 37, 3) := by decide +kernel
theorem dX2_byKinds_6 : decode cX2_byKinds 6 = .ok (.imul, 1) := by decide +kernel
theorem dX2_byKinds_7 : decode cX2_byKinds 7 = .ok (.aload_n 0, 1) := by decide +kernel
theorem dX2_byKinds_8 : decode cX2_byKinds 8 = .ok (.iload_n 2, 1) := by decide +kernel
theorem dX2_byKinds_9 : decode cX2_byKinds 9 = .ok (.invokevirtual 37, 3) := by decide +kernel
theorem dX2_byKinds_12 : decode cX2_byKinds 12 = .ok (.iadd, 1) := by decide +kernel
theorem dX2_byKinds_13 : decode cX2_byKinds 13 = .ok (.ireturn, 1) := by decide +kernel
set_option maxRecDepth 20000 in
theorem ggX2_markOf_X6_isPlace : GoodIn wsX2_markOf wsX6_isPlace := goodIn_r _ [4] (by decide +kernel) (by decide +kernel)
set_option maxRecDepth 20000 in
theorem gX2_markOf_X6_isPlace_n33 : GoodIn wsX2_markOf (wsX6_isPlace) := ggX2_markOf_X6_isPlace
theorem dX2_markOf_0 : decode cX2_markOf 0 = .ok (.iload_n 1, 1) := by decide +kernel
theorem dX2_markOf_1 : decode cX2_markOf 1 = .ok (.invokestatic 33, 3) := by decide +kernel
theorem dX2_markOf_4 : decode cX2_markOf 4 = .ok (.ifCond .eq 21, 3) := by decide +kernel
theorem dX2_markOf_7 : decode cX2_markOf 7 = .ok (.iload_n 2, 1) := by decide +kernel
theorem dX2_markOf_8 : decode cX2_markOf 8 = .ok (.invokestatic 33, 3) := by decide +kernel
theorem dX2_markOf_11 : decode cX2_markOf 11 = .ok (.ifCond .eq 14, 3) := by decide +kernel
theorem dX2_markOf_14 : decode cX2_markOf 14 = .ok (.aload_n 0, 1) := by decide +kernel
theorem dX2_markOf_15 : decode cX2_markOf 15 = .ok (.getfield 20, 3) := by decide +kernel
theorem dX2_markOf_18 : decode cX2_markOf 18 = .ok (.iload_n 1, 1) := by decide +kernel
theorem dX2_markOf_19 : decode cX2_markOf 19 = .ok (.aaload, 1) := by decide +kernel
theorem dX2_markOf_20 : decode cX2_markOf 20 = .ok (.iload_n 2, 1) := by decide +kernel
theorem dX2_markOf_21 : decode cX2_markOf 21 = .ok (.iaload, 1) := by decide +kernel
theorem dX2_markOf_22 : decode cX2_markOf 22 = .ok (.goto 4, 3) := by decide +kernel
theorem dX2_markOf_25 : decode cX2_markOf 25 = .ok (.iconst 2, 1) := by decide +kernel
theorem dX2_markOf_26 : decode cX2_markOf 26 = .ok (.ireturn, 1) := by decide +kernel
set_option maxRecDepth 20000 in
theorem ggX2_changeMark_X2_markOf : GoodIn wsX2_changeMark wsX2_markOf := goodIn_r _ [6, 1, 7, 8, 9, 10, 11, 12, 13] (by decide +kernel) (by decide +kernel)
set_option maxRecDepth 20000 in
theorem gX2_changeMark_X2_markOf : GoodIn wsX2_changeMark (wsV RX2 41 RX2 yX2_markOf wsX2_markOf) := goodIn_app (goodIn_of _ (by decide +kernel)) ggX2_changeMark_X2_markOf
set_option maxRecDepth 20000 in
theorem ggX2_changeMark_X6_isPlace : GoodIn wsX2_changeMark wsX6_isPlace := goodIn_r _ [9] (by decide +kernel) (by decide +kernel)
set_option maxRecDepth 20000 in
theorem gX2_changeMark_X6_isPlace_n33 : GoodIn wsX2_changeMark (wsX6_isPlace) := ggX2_changeMark_X6_isPlace
theorem dX2_changeMark_0 : decode cX2_changeMark 0 = .ok (.aload_n 0, 1) := by decide +kernel
theorem dX2_changeMark_1 : decode cX2_changeMark 1 = .ok (.iload_n 1, 1) := by decide +kernel
theorem dX2_changeMark_2 : decode cX2_changeMark 2 = .ok (.iload_n 2, 1) := by decide +kernel
theorem dX2_changeMark_3 : decode cX2_changeMark 3 = .ok (.invokevirtual 41, 3) := by decide +kernel
theorem dX2_changeMark_6 : decode cX2_changeMark 6 = .ok (.istore 4, 2) := by decide +kernel
theorem dX2_changeMark_8 : decode cX2_changeMark 8 = .ok (.iload_n 1, 1) := by decide +kernel
theorem dX2_changeMark_9 : decode cX2_changeMark 9 = .ok (.invokestatic 33, 3) := by decide +kernel
theorem dX2_changeMark_12 : decode cX2_changeMark 12 = .ok (.ifCond .eq 19, 3) := by decide +kernel
theorem dX2_changeMark_15 : decode cX2_changeMark 15 = .ok (.iload_n 2, 1) := by decide +kernel
theorem dX2_changeMark_16 : decode cX2_changeMark 16 = .ok (.invokestatic 33, 3) := by decide +kernel
theorem dX2_changeMark_19 : decode cX2_changeMark 19 = .ok (.ifCond .eq 12, 3) := by decide +kernel
theorem dX2_changeMark_22 : decode cX2_changeMark 22 = .ok (.aload_n 0, 1) := by decide +kernel
theorem dX2_changeMark_23 : decode cX2_changeMark 23 = .ok (.getfield 20, 3) := by decide +kernel
theorem dX2_changeMark_26 : decode cX2_changeMark 26 = .ok (.iload_n 1, 1) := by decide +kernel
theorem dX2_changeMark_27 : decode cX2_changeMark 27 = .ok (.aaload, 1) := by decide +kernel
theorem dX2_changeMark_28 : decode cX2_changeMark 28 = .ok (.iload_n 2, 1) := by decide +kernel
theorem dX2_changeMark_29 : decode cX2_changeMark 29 = .ok (.iload_n 3, 1) := by decide +kernel
theorem dX2_changeMark_30 : decode cX2_changeMark 30 = .ok (.iastore, 1) := by decide +kernel
theorem dX2_changeMark_31 : decode cX2_changeMark 31 = .ok (.iload 4, 2) := by decide +kernel
theorem dX2_changeMark_33 : decode cX2_changeMark 33 = .ok (.ireturn, 1) := by decide +kernel
set_option maxRecDepth 20000 in
theorem ggX2_forcedHead_X2_markOf : GoodIn wsX2_forcedHead wsX2_markOf := goodIn_r _ [6, 7, 8, 9, 10, 11, 12, 13, 14] (by decide +kernel) (by decide +kernel)
set_option maxRecDepth 20000 in
theorem gX2_forcedHead_X2_markOf : GoodIn wsX2_forcedHead (wsV RX2 41 RX2 yX2_markOf wsX2_markOf) := goodIn_app (goodIn_of _ (by decide +kernel)) ggX2_forcedHead_X2_markOf
theorem dX2_forcedHead_0 : decode cX2_forcedHead 0 = .ok (.iconst 0, 1) := by decide +kernel
theorem dX2_forcedHead_1 : decode cX2_forcedHead 1 = .ok (.istore_n 2, 1) := by decide +kernel
theorem dX2_forcedHead_2 : decode cX2_forcedHead 2 = .ok (.iload_n 2, 1) := by decide +kernel
theorem dX2_forcedHead_3 : decode cX2_forcedHead 3 = .ok (.aload_n 0, 1) := by decide +kernel
theorem dX2_forcedHead_4 : decode cX2_forcedHead 4 = .ok (.getfield 23, 3) := by decide +kernel
theorem dX2_forcedHead_7 : decode cX2_forcedHead 7 = .ok (.if_icmp .gt 21, 3) := by decide +kernel
theorem dX2_forcedHead_10 : decode cX2_forcedHead 10 = .ok (.aload_n 0, 1) := by decide +kernel
theorem dX2_forcedHead_11 : decode cX2_forcedHead 11 = .ok (.iload_n 2, 1) := by decide +kernel
theorem dX2_forcedHead_12 : decode cX2_forcedHead 12 = .ok (.iload_n 1, 1) := by decide +kernel
theorem dX2_forcedHead_13 : decode cX2_forcedHead 13 = .ok (.invokevirtual 41, 3) := by decide +kernel
theorem dX2_forcedHead_16 : decode cX2_forcedHead 16 = .ok (.iconst 1, 1) := by decide +kernel
theorem dX2_forcedHead_17 : decode cX2_forcedHead 17 = .ok (.if_icmp .ne 5, 3) := by decide +kernel
theorem dX2_forcedHead_20 : decode cX2_forcedHead 20 = .ok (.iload_n 2, 1) := by decide +kernel
theorem dX2_forcedHead_21 : decode cX2_forcedHead 21 = .ok (.ireturn, 1) := by decide +kernel
theorem dX2_forcedHead_22 : decode cX2_forcedHead 22 = .ok (.iinc 2 1, 3) := by decide +kernel
theorem dX2_forcedHead_25 : decode cX2_forcedHead 25 = .ok (.goto (-23), 3) := by decide +kernel
theorem dX2_forcedHead_28 : decode cX2_forcedHead 28 = .ok (.iconst (-1), 1) := by decide +kernel
theorem dX2_forcedHead_29 : decode cX2_forcedHead 29 = .ok (.ireturn, 1) := by decide +kernel
set_option maxRecDepth 20000 in
theorem ggX2_allows_X2_markOf : GoodIn wsX2_allows wsX2_markOf := goodIn_r _ [5, 6, 7, 8, 9, 15, 16, 17, 18] (by decide +kernel) (by decide +kernel)
set_option maxRecDepth 20000 in
theorem gX2_allows_X2_markOf : GoodIn wsX2_allows (wsV RX2 41 RX2 yX2_markOf wsX2_markOf) := goodIn_app (goodIn_of _ (by decide +kernel)) ggX2_allows_X2_markOf
set_option maxRecDepth 20000 in
theorem ggX2_allows_X2_forcedHead : GoodIn wsX2_allows wsX2_forcedHead := goodIn_r _ [13, 14, 1, 2, 3, 4, 5, 6, 7, 8, 9, 15, 16, 17, 18] (by decide +kernel) (by decide +kernel)
set_option maxRecDepth 20000 in
theorem gX2_allows_X2_forcedHead : GoodIn wsX2_allows (wsV RX2 45 RX2 yX2_forcedHead wsX2_forcedHead) := goodIn_app (goodIn_of _ (by decide +kernel)) ggX2_allows_X2_forcedHead
theorem dX2_allows_0 : decode cX2_allows 0 = .ok (.iload_n 1, 1) := by decide +kernel
theorem dX2_allows_1 : decode cX2_allows 1 = .ok (.iload_n 2, 1) := by decide +kernel
theorem dX2_allows_2 : decode cX2_allows 2 = .ok (.if_icmp .eq 13, 3) := by decide +kernel
theorem dX2_allows_5 : decode cX2_allows 5 = .ok (.aload_n 0, 1) := by decide +kernel
theorem dX2_allows_6 : decode cX2_allows 6 = .ok (.iload_n 1, 1) := by decide +kernel
theorem dX2_allows_7 : decode cX2_allows 7 = .ok (.iload_n 2, 1) := by decide +kernel
theorem dX2_allows_8 : decode cX2_allows 8 = .ok (.invokevirtual 41, 3) := by decide +kernel
theorem dX2_allows_11 : decode cX2_allows 11 = .ok (.iconst 2, 1) := by decide +kernel
theorem dX2_allows_12 : decode cX2_allows 12 = .ok (.if_icmp .ne 5, 3) := by decide +kernel
theorem dX2_allows_15 : decode cX2_allows 15 = .ok (.iconst 0, 1) := by decide +kernel
theorem dX2_allows_16 : decode cX2_allows 16 = .ok (.ireturn, 1) := by decide +kernel
theorem dX2_allows_17 : decode cX2_allows 17 = .ok (.aload_n 0, 1) := by decide +kernel
theorem dX2_allows_18 : decode cX2_allows 18 = .ok (.iload_n 2, 1) := by decide +kernel
theorem dX2_allows_19 : decode cX2_allows 19 = .ok (.invokevirtual 45, 3) := by decide +kernel
theorem dX2_allows_22 : decode cX2_allows 22 = .ok (.istore_n 3, 1) := by decide +kernel
theorem dX2_allows_23 : decode cX2_allows 23 = .ok (.iload_n 3, 1) := by decide +kernel
theorem dX2_allows_24 : decode cX2_allows 24 = .ok (.iconst (-1), 1) := by decide +kernel
theorem dX2_allows_25 : decode cX2_allows 25 = .ok (.if_icmp .eq 8, 3) := by decide +kernel
theorem dX2_allows_28 : decode cX2_allows 28 = .ok (.iload_n 3, 1) := by decide +kernel
theorem dX2_allows_29 : decode cX2_allows 29 = .ok (.iload_n 1, 1) := by decide +kernel
theorem dX2_allows_30 : decode cX2_allows 30 = .ok (.if_icmp .ne 7, 3) := by decide +kernel
theorem dX2_allows_33 : decode cX2_allows 33 = .ok (.iconst 1, 1) := by decide +kernel
theorem dX2_allows_34 : decode cX2_allows 34 = .ok (.goto 4, 3) := by decide +kernel
theorem dX2_allows_37 : decode cX2_allows 37 = .ok (.iconst 0, 1) := by decide +kernel
theorem dX2_allows_38 : decode cX2_allows 38 = .ok (.ireturn, 1) := by decide +kernel
set_option maxRecDepth 20000 in
theorem ggX2_rightHead_X6_isPlace : GoodIn wsX2_rightHead wsX6_isPlace := goodIn_r _ [4] (by decide +kernel) (by decide +kernel)
set_option maxRecDepth 20000 in
theorem gX2_rightHead_X6_isPlace_n33 : GoodIn wsX2_rightHead (wsX6_isPlace) := ggX2_rightHead_X6_isPlace
theorem dX2_rightHead_0 : decode cX2_rightHead 0 = .ok (.iload_n 1, 1) := by decide +kernel
theorem dX2_rightHead_1 : decode cX2_rightHead 1 = .ok (.invokestatic 33, 3) := by decide +kernel
theorem dX2_rightHead_4 : decode cX2_rightHead 4 = .ok (.ifCond .eq 12, 3) := by decide +kernel
theorem dX2_rightHead_7 : decode cX2_rightHead 7 = .ok (.aload_n 0, 1) := by decide +kernel
theorem dX2_rightHead_8 : decode cX2_rightHead 8 = .ok (.getfield 15, 3) := by decide +kernel
theorem dX2_rightHead_11 : decode cX2_rightHead 11 = .ok (.iload_n 1, 1) := by decide +kernel
theorem dX2_rightHead_12 : decode cX2_rightHead 12 = .ok (.iaload, 1) := by decide +kernel
theorem dX2_rightHead_13 : decode cX2_rightHead 13 = .ok (.goto 4, 3) := by decide +kernel
theorem dX2_rightHead_16 : decode cX2_rightHead 16 = .ok (.iconst (-1), 1) := by decide +kernel
theorem dX2_rightHead_17 : decode cX2_rightHead 17 = .ok (.ireturn, 1) := by decide +kernel
set_option maxRecDepth 20000 in
theorem ggX2_changeRightHead_X2_rightHead : GoodIn wsX2_changeRightHead wsX2_rightHead := goodIn_r _ [6, 1, 7, 8, 9, 10, 11, 12, 13] (by decide +kernel) (by decide +kernel)
set_option maxRecDepth 20000 in
theorem gX2_changeRightHead_X2_rightHead : GoodIn wsX2_changeRightHead (wsV RX2 48 RX2 yX2_rightHead wsX2_rightHead) := goodIn_app (goodIn_of _ (by decide +kernel)) ggX2_changeRightHead_X2_rightHead
set_option maxRecDepth 20000 in
theorem ggX2_changeRightHead_X6_isPlace : GoodIn wsX2_changeRightHead wsX6_isPlace := goodIn_r _ [9] (by decide +kernel) (by decide +kernel)
set_option maxRecDepth 20000 in
theorem gX2_changeRightHead_X6_isPlace_n33 : GoodIn wsX2_changeRightHead (wsX6_isPlace) := ggX2_changeRightHead_X6_isPlace
theorem dX2_changeRightHead_0 : decode cX2_changeRightHead 0 = .ok (.aload_n 0, 1) := by decide +kernel
theorem dX2_changeRightHead_1 : decode cX2_changeRightHead 1 = .ok (.iload_n 2, 1) := by decide +kernel
theorem dX2_changeRightHead_2 : decode cX2_changeRightHead 2 = .ok (.invokevirtual 48, 3) := by decide +kernel
theorem dX2_changeRightHead_5 : decode cX2_changeRightHead 5 = .ok (.istore_n 3, 1) := by decide +kernel
theorem dX2_changeRightHead_6 : decode cX2_changeRightHead 6 = .ok (.iload_n 2, 1) := by decide +kernel
theorem dX2_changeRightHead_7 : decode cX2_changeRightHead 7 = .ok (.invokestatic 33, 3) := by decide +kernel
theorem dX2_changeRightHead_10 : decode cX2_changeRightHead 10 = .ok (.ifCond .eq 10, 3) := by decide +kernel
theorem dX2_changeRightHead_13 : decode cX2_changeRightHead 13 = .ok (.aload_n 0, 1) := by decide +kernel
theorem dX2_changeRightHead_14 : decode cX2_changeRightHead 14 = .ok (.getfield 15, 3) := by decide +kernel
theorem dX2_changeRightHead_17 : decode cX2_changeRightHead 17 = .ok (.iload_n 2, 1) := by decide +kernel
theorem dX2_changeRightHead_18 : decode cX2_changeRightHead 18 = .ok (.iload_n 1, 1) := by decide +kernel
theorem dX2_changeRightHead_19 : decode cX2_changeRightHead 19 = .ok (.iastore, 1) := by decide +kernel
theorem dX2_changeRightHead_20 : decode cX2_changeRightHead 20 = .ok (.iload_n 3, 1) := by decide +kernel
theorem dX2_changeRightHead_21 : decode cX2_changeRightHead 21 = .ok (.ireturn, 1) := by decide +kernel
set_option maxRecDepth 20000 in
theorem ggX2_hasRightTree_X2_rightHead : GoodIn wsX2_hasRightTree wsX2_rightHead := goodIn_r _ [6, 7, 8, 9, 10, 11, 12, 13, 14] (by decide +kernel) (by decide +kernel)
set_option maxRecDepth 20000 in
theorem gX2_hasRightTree_X2_rightHead : GoodIn wsX2_hasRightTree (wsV RX2 48 RX2 yX2_rightHead wsX2_rightHead) := goodIn_app (goodIn_of _ (by decide +kernel)) ggX2_hasRightTree_X2_rightHead
theorem dX2_hasRightTree_0 : decode cX2_hasRightTree 0 = .ok (.iconst 1, 1) := by decide +kernel
theorem dX2_hasRightTree_1 : decode cX2_hasRightTree 1 = .ok (.istore_n 1, 1) := by decide +kernel
theorem dX2_hasRightTree_2 : decode cX2_hasRightTree 2 = .ok (.iload_n 1, 1) := by decide +kernel
theorem dX2_hasRightTree_3 : decode cX2_hasRightTree 3 = .ok (.aload_n 0, 1) := by decide +kernel
theorem dX2_hasRightTree_4 : decode cX2_hasRightTree 4 = .ok (.getfield 23, 3) := by decide +kernel
theorem dX2_hasRightTree_7 : decode cX2_hasRightTree 7 = .ok (.if_icmp .gt 43, 3) := by decide +kernel
theorem dX2_hasRightTree_10 : decode cX2_hasRightTree 10 = .ok (.iload_n 1, 1) := by decide +kernel
theorem dX2_hasRightTree_11 : decode cX2_hasRightTree 11 = .ok (.istore_n 2, 1) := by decide +kernel
theorem dX2_hasRightTree_12 : decode cX2_hasRightTree 12 = .ok (.iconst 0, 1) := by decide +kernel
theorem dX2_hasRightTree_13 : decode cX2_hasRightTree 13 = .ok (.istore_n 3, 1) := by decide +kernel
theorem dX2_hasRightTree_14 : decode cX2_hasRightTree 14 = .ok (.iload_n 3, 1) := by decide +kernel
theorem dX2_hasRightTree_15 : decode cX2_hasRightTree 15 = .ok (.aload_n 0, 1) := by decide +kernel
theorem dX2_hasRightTree_16 : decode cX2_hasRightTree 16 = .ok (.getfield 23, 3) := by decide +kernel
theorem dX2_hasRightTree_19 : decode cX2_hasRightTree 19 = .ok (.if_icmp .ge 19, 3) := by decide +kernel
theorem dX2_hasRightTree_22 : decode cX2_hasRightTree 22 = .ok (.iload_n 2, 1) := by decide +kernel
theorem dX2_hasRightTree_23 : decode cX2_hasRightTree 23 = .ok (.ifCond .le 15, 3) := by decide +kernel
theorem dX2_hasRightTree_26 : decode cX2_hasRightTree 26 = .ok (.aload_n 0, 1) := by decide +kernel
theorem dX2_hasRightTree_27 : decode cX2_hasRightTree 27 = .ok (.iload_n 2, 1) := by decide +kernel
theorem dX2_hasRightTree_28 : decode cX2_hasRightTree 28 = .ok (.invokevirtual 48, 3) := by decide +kernel
theorem dX2_hasRightTree_31 : decode cX2_hasRightTree 31 = .ok (.istore_n 2, 1) := by decide +kernel
theorem dX2_hasRightTree_32 : decode cX2_hasRightTree 32 = .ok (.iinc 3 1, 3) := by decide +kernel
theorem dX2_hasRightTree_35 : decode cX2_hasRightTree 35 = .ok (.goto (-21), 3) := by decide +kernel
theorem dX2_hasRightTree_38 : decode cX2_hasRightTree 38 = .ok (.iload_n 2, 1) := by decide +kernel
theorem dX2_hasRightTree_39 : decode cX2_hasRightTree 39 = .ok (.ifCond .eq 5, 3) := by decide +kernel
theorem dX2_hasRightTree_42 : decode cX2_hasRightTree 42 = .ok (.iconst 0, 1) := by decide +kernel
theorem dX2_hasRightTree_43 : decode cX2_hasRightTree 43 = .ok (.ireturn, 1) := by decide +kernel
theorem dX2_hasRightTree_44 : decode cX2_hasRightTree 44 = .ok (.iinc 1 1, 3) := by decide +kernel
theorem dX2_hasRightTree_47 : decode cX2_hasRightTree 47 = .ok (.goto (-45), 3) := by decide +kernel
theorem dX2_hasRightTree_50 : decode cX2_hasRightTree 50 = .ok (.iconst 1, 1) := by decide +kernel
theorem dX2_hasRightTree_51 : decode cX2_hasRightTree 51 = .ok (.ireturn, 1) := by decide +kernel
theorem dX3_init_0 : decode cX3_init 0 = .ok (.aload_n 0, 1) := by decide +kernel
theorem dX3_init_1 : decode cX3_init 1 = .ok (.invokespecial 3, 3) := by decide +kernel
theorem dX3_init_4 : decode cX3_init 4 = .ok (.aload_n 0, 1) := by decide +kernel
theorem dX3_init_5 : decode cX3_init 5 = .ok (.bipush 7, 2) := by decide +kernel
theorem dX3_init_7 : decode cX3_init 7 = .ok (.bipush 7, 2) := by decide +kernel
theorem dX3_init_9 : decode cX3_init 9 = .ok (.multianewarray 9 2, 4) := by decide +kernel
theorem dX3_init_13 : decode cX3_init 13 = .ok (.putfield 11, 3) := by decide +kernel
theorem dX3_init_16 : decode cX3_init 16 = .ok (.aload_n 0, 1) := by decide +kernel
theorem dX3_init_17 : decode cX3_init 17 = .ok (.bipush 7, 2) := by decide +kernel
theorem dX3_init_19 : decode cX3_init 19 = .ok (.bipush 7, 2) := by decide +kernel
theorem dX3_init_21 : decode cX3_init 21 = .ok (.multianewarray 9 2, 4) := by decide +kernel
theorem dX3_init_25 : decode cX3_init 25 = .ok (.putfield 16, 3) := by decide +kernel
theorem dX3_init_28 : decode cX3_init 28 = .ok (.aload_n 0, 1) := by decide +kernel
theorem dX3_init_29 : decode cX3_init 29 = .ok (.bipush 7, 2) := by decide +kernel
theorem dX3_init_31 : decode cX3_init 31 = .ok (.bipush 7, 2) := by decide +kernel
theorem dX3_init_33 : decode cX3_init 33 = .ok (.multianewarray 9 2, 4) := by decide +kernel
theorem dX3_init_37 : decode cX3_init 37 = .ok (.putfield 19, 3) := by decide +kernel
theorem dX3_init_40 : decode cX3_init 40 = .ok (.aload_n 0, 1) := by decide +kernel
theorem dX3_init_41 : decode cX3_init 41 = .ok (.bipush 7, 2) := by decide +kernel
theorem dX3_init_43 : decode cX3_init 43 = .ok (.bipush 7, 2) := by decide +kernel
theorem dX3_init_45 : decode cX3_init 45 = .ok (.multianewarray 9 2, 4) := by decide +kernel
theorem dX3_init_49 : decode cX3_init 49 = .ok (.putfield 22, 3) := by decide +kernel
theorem dX3_init_52 : decode cX3_init 52 = .ok (.return_, 1) := by decide +kernel
set_option maxRecDepth 20000 in
theorem ggX3_greatest_X0_size : GoodIn wsX3_greatest wsX0_size := goodIn_r _ [12, 13, 44, 45] (by decide +kernel) (by decide +kernel)
set_option maxRecDepth 20000 in
theorem gX3_greatest_X0_size : GoodIn wsX3_greatest (wsV RX3 25 RX0 yX0_size wsX0_size) := goodIn_app (goodIn_of _ (by decide +kernel)) ggX3_greatest_X0_size
set_option maxRecDepth 20000 in
theorem ggX3_greatest_X3_fillOpen : GoodIn wsX3_greatest wsX3_fillOpen := goodIn_r _ [18, 7, 5, 6, 19, 20, 3, 21, 22, 23, 24, 25, 26, 27, 28, 17, 29, 30, 31, 32, 11, 33, 34, 35, 40, 41, 42, 43, 44, 45] (by decide +kernel) (by decide +kernel)
set_option maxRecDepth 20000 in
theorem gX3_greatest_X3_fillOpen : GoodIn wsX3_greatest (wsV RX3 37 RX3 yX3_fillOpen wsX3_fillOpen) := goodIn_app (goodIn_of _ (by decide +kernel)) ggX3_greatest_X3_fillOpen
set_option maxRecDepth 20000 in
theorem ggX3_greatest_X3_fillWhole : GoodIn wsX3_greatest wsX3_fillWhole := goodIn_r _ [39, 7, 22, 5, 19, 20, 3, 21, 6, 23, 24, 25, 26, 27, 28, 17, 29, 40, 41, 42, 43] (by decide +kernel) (by decide +kernel)
set_option maxRecDepth 20000 in
theorem gX3_greatest_X3_fillWhole : GoodIn wsX3_greatest (wsV RX3 41 RX3 yX3_fillWhole wsX3_fillWhole) := goodIn_app (goodIn_of _ (by decide +kernel)) ggX3_greatest_X3_fillWhole
theorem dX3_greatest_0 : decode cX3_greatest 0 = .ok (.aload_n 1, 1) := by decide +kernel
theorem dX3_greatest_1 : decode cX3_greatest 1 = .ok (.invokevirtual 25, 3) := by decide +kernel
theorem dX3_greatest_4 : decode cX3_greatest 4 = .ok (.bipush 6, 2) := by decide +kernel
theorem dX3_greatest_6 : decode cX3_greatest 6 = .ok (.invokestatic 31, 3) := by decide +kernel
theorem dX3_greatest_9 : decode cX3_greatest 9 = .ok (.istore_n 2, 1) := by decide +kernel
theorem dX3_greatest_10 : decode cX3_greatest 10 = .ok (.iconst 0, 1) := by decide +kernel
theorem dX3_greatest_11 : decode cX3_greatest 11 = .ok (.istore_n 3, 1) := by decide +kernel
theorem dX3_greatest_12 : decode cX3_greatest 12 = .ok (.iload_n 3, 1) := by decide +kernel
theorem dX3_greatest_13 : decode cX3_greatest 13 = .ok (.iload_n 2, 1) := by decide +kernel
theorem dX3_greatest_14 : decode cX3_greatest 14 = .ok (.if_icmp .gt 27, 3) := by decide +kernel
theorem dX3_greatest_17 : decode cX3_greatest 17 = .ok (.aload_n 0, 1) := by decide +kernel
theorem dX3_greatest_18 : decode cX3_greatest 18 = .ok (.getfield 11, 3) := by decide +kernel
theorem dX3_greatest_21 : decode cX3_greatest 21 = .ok (.iload_n 3, 1) := by decide +kernel
theorem dX3_greatest_22 : decode cX3_greatest 22 = .ok (.aaload, 1) := by decide +kernel
theorem dX3_greatest_23 : decode cX3_greatest 23 = .ok (.iload_n 3, 1) := by decide +kernel
theorem dX3_greatest_24 : decode cX3_greatest 24 = .ok (.lconst 0, 1) := by decide +kernel
theorem dX3_greatest_25 : decode cX3_greatest 25 = .ok (.lastore, 1) := by decide +kernel
theorem dX3_greatest_26 : decode cX3_greatest 26 = .ok (.aload_n 0, 1) := by decide +kernel
theorem dX3_greatest_27 : decode cX3_greatest 27 = .ok (.getfield 16, 3) := by decide +kernel
theorem dX3_greatest_30 : decode cX3_greatest 30 = .ok (.iload_n 3, 1) := by decide +kernel
theorem dX3_greatest_31 : decode cX3_greatest 31 = .ok (.aaload, 1) := by decide +kernel
theorem dX3_greatest_32 : decode cX3_greatest 32 = .ok (.iload_n 3, 1) := by decide +kernel
theorem dX3_greatest_33 : decode cX3_greatest 33 = .ok (.lconst 0, 1) := by decide +kernel
theorem dX3_greatest_34 : decode cX3_greatest 34 = .ok (.lastore, 1) := by decide +kernel
theorem dX3_greatest_35 : decode cX3_greatest 35 = .ok (.iinc 3 1, 3) := by decide +kernel
theorem dX3_greatest_38 : decode cX3_greatest 38 = .ok (.goto (-26), 3) := by decide +kernel
theorem dX3_greatest_41 : decode cX3_greatest 41 = .ok (.iconst 1, 1) := by decide +kernel
theorem dX3_greatest_42 : decode cX3_greatest 42 = .ok (.istore_n 3, 1) := by decide +kernel
theorem dX3_greatest_43 : decode cX3_greatest 43 = .ok (.iload_n 3, 1) := by decide +kernel
theorem dX3_greatest_44 : decode cX3_greatest 44 = .ok (.iload_n 2, 1) := by decide +kernel
theorem dX3_greatest_45 : decode cX3_greatest 45 = .ok (.if_icmp .gt 47, 3) := by decide +kernel
theorem dX3_greatest_48 : decode cX3_greatest 48 = .ok (.iconst 0, 1) := by decide +kernel
theorem dX3_greatest_49 : decode cX3_greatest 49 = .ok (.istore 4, 2) := by decide +kernel
theorem dX3_greatest_51 : decode cX3_greatest 51 = .ok (.iload 4, 2) := by decide +kernel
theorem dX3_greatest_53 : decode cX3_greatest 53 = .ok (.iload_n 3, 1) := by decide +kernel
theorem dX3_greatest_54 : decode cX3_greatest 54 = .ok (.iadd, 1) := by decide +kernel
theorem dX3_greatest_55 : decode cX3_greatest 55 = .ok (.iload_n 2, 1) := by decide +kernel
theorem dX3_greatest_56 : decode cX3_greatest 56 = .ok (.if_icmp .gt 30, 3) := by decide +kernel
theorem dX3_greatest_59 : decode cX3_greatest 59 = .ok (.aload_n 0, 1) := by decide +kernel
theorem dX3_greatest_60 : decode cX3_greatest 60 = .ok (.aload_n 1, 1) := by decide +kernel
theorem dX3_greatest_61 : decode cX3_greatest 61 = .ok (.iload 4, 2) := by decide +kernel
theorem dX3_greatest_63 : decode cX3_greatest 63 = .ok (.iload 4, 2) := by decide +kernel
theorem dX3_greatest_65 : decode cX3_greatest 65 = .ok (.iload_n 3, 1) := by decide +kernel
theorem dX3_greatest_66 : decode cX3_greatest 66 = .ok (.iadd, 1) := by decide +kernel
theorem dX3_greatest_67 : decode cX3_greatest 67 = .ok (.invokevirtual 37, 3) := by decide +kernel
theorem dX3_greatest_70 : decode cX3_greatest 70 = .ok (.aload_n 0, 1) := by decide +kernel
theorem dX3_greatest_71 : decode cX3_greatest 71 = .ok (.iload 4, 2) := by decide +kernel
theorem dX3_greatest_73 : decode cX3_greatest 73 = .ok (.iload 4, 2) := by decide +kernel
theorem dX3_greatest_75 : decode cX3_greatest 75 = .ok (.iload_n 3, 1) := by decide +kernel
theorem dX3_greatest_76 : decode cX3_greatest 76 = .ok (.iadd, 1) := by decide +kernel
theorem dX3_greatest_77 : decode cX3_greatest 77 = .ok (.invokevirtual 41, 3) := by decide +kernel
theorem dX3_greatest_80 : decode cX3_greatest 80 = .ok (.iinc 4 1, 3) := by decide +kernel
theorem dX3_greatest_83 : decode cX3_greatest 83 = .ok (.goto (-32), 3) := by decide +kernel
theorem dX3_greatest_86 : decode cX3_greatest 86 = .ok (.iinc 3 1, 3) := by decide +kernel
theorem dX3_greatest_89 : decode cX3_greatest 89 = .ok (.goto (-46), 3) := by decide +kernel
theorem dX3_greatest_92 : decode cX3_greatest 92 = .ok (.iload_n 2, 1) := by decide +kernel
theorem dX3_greatest_93 : decode cX3_greatest 93 = .ok (.ifCond .lt 14, 3) := by decide +kernel
theorem dX3_greatest_96 : decode cX3_greatest 96 = .ok (.aload_n 0, 1) := by decide +kernel
theorem dX3_greatest_97 : decode cX3_greatest 97 = .ok (.getfield 11, 3) := by decide +kernel
theorem dX3_greatest_100 : decode cX3_greatest 100 = .ok (.iconst 0, 1) := by decide +kernel
theorem dX3_greatest_101 : decode cX3_greatest 101 = .ok (.aaload, 1) := by decide +kernel
theorem dX3_greatest_102 : decode cX3_greatest 102 = .ok (.iload_n 2, 1) := by decide +kernel
theorem dX3_greatest_103 : decode cX3_greatest 103 = .ok (.laload, 1) := by decide +kernel
theorem dX3_greatest_104 : decode cX3_greatest 104 = .ok (.goto 6, 3) := by decide +kernel
theorem dX3_greatest_107 : decode cX3_greatest 107 = .ok (.ldc2_w 45, 3) := by decide +kernel
theorem dX3_greatest_110 : decode cX3_greatest 110 = .ok (.lreturn, 1) := by decide +kernel
set_option maxRecDepth 20000 in
theorem ggX3_fillOpen_X6_isPlace : GoodIn wsX3_fillOpen wsX6_isPlace := goodIn_r _ [12] (by decide +kernel) (by decide +kernel)
set_option maxRecDepth 20000 in
theorem gX3_fillOpen_X6_isPlace_n47 : GoodIn wsX3_fillOpen (wsX6_isPlace) := ggX3_fillOpen_X6_isPlace
set_option maxRecDepth 20000 in
theorem ggX3_fillOpen_X3_join : GoodIn wsX3_fillOpen wsX3_join := goodIn_r _ [16, 1] (by decide +kernel) (by decide +kernel)
set_option maxRecDepth 20000 in
theorem gX3_fillOpen_X3_join : GoodIn wsX3_fillOpen (va_wsS RX3 51 yX3_join wsX3_join) := goodIn_app (goodIn_of _ (by decide +kernel)) ggX3_fillOpen_X3_join
set_option maxRecDepth 20000 in
theorem ggX3_fillOpen_X0_get : GoodIn wsX3_fillOpen wsX0_get := goodIn_r _ [21, 22, 23, 10, 11, 12, 28, 29] (by decide +kernel) (by decide +kernel)
set_option maxRecDepth 20000 in
theorem gX3_fillOpen_X0_get : GoodIn wsX3_fillOpen (wsV RX3 58 RX0 yX0_get wsX0_get) := goodIn_app (goodIn_of _ (by decide +kernel)) ggX3_fillOpen_X0_get
theorem dX3_fillOpen_0 : decode cX3_fillOpen 0 = .ok (.iload_n 2, 1) := by decide +kernel
theorem dX3_fillOpen_1 : decode cX3_fillOpen 1 = .ok (.invokestatic 47, 3) := by decide +kernel
theorem dX3_fillOpen_4 : decode cX3_fillOpen 4 = .ok (.ifCond .eq 10, 3) := by decide +kernel
theorem dX3_fillOpen_7 : decode cX3_fillOpen 7 = .ok (.iload_n 3, 1) := by decide +kernel
theorem dX3_fillOpen_8 : decode cX3_fillOpen 8 = .ok (.invokestatic 47, 3) := by decide +kernel
theorem dX3_fillOpen_11 : decode cX3_fillOpen 11 = .ok (.ifCond .ne 4, 3) := by decide +kernel
theorem dX3_fillOpen_14 : decode cX3_fillOpen 14 = .ok (.return_, 1) := by decide +kernel
theorem dX3_fillOpen_15 : decode cX3_fillOpen 15 = .ok (.ldc2_w 45, 3) := by decide +kernel
theorem dX3_fillOpen_18 : decode cX3_fillOpen 18 = .ok (.lstore 4, 2) := by decide +kernel
theorem dX3_fillOpen_20 : decode cX3_fillOpen 20 = .ok (.iload_n 2, 1) := by decide +kernel
theorem dX3_fillOpen_21 : decode cX3_fillOpen 21 = .ok (.istore 6, 2) := by decide +kernel
theorem dX3_fillOpen_23 : decode cX3_fillOpen 23 = .ok (.iload 6, 2) := by decide +kernel
theorem dX3_fillOpen_25 : decode cX3_fillOpen 25 = .ok (.iload_n 3, 1) := by decide +kernel
theorem dX3_fillOpen_26 : decode cX3_fillOpen 26 = .ok (.if_icmp .ge 39, 3) := by decide +kernel
theorem dX3_fillOpen_29 : decode cX3_fillOpen 29 = .ok (.lload 4, 2) := by decide +kernel
theorem dX3_fillOpen_31 : decode cX3_fillOpen 31 = .ok (.aload_n 0, 1) := by decide +kernel
theorem dX3_fillOpen_32 : decode cX3_fillOpen 32 = .ok (.getfield 11, 3) := by decide +kernel
theorem dX3_fillOpen_35 : decode cX3_fillOpen 35 = .ok (.iload_n 2, 1) := by decide +kernel
theorem dX3_fillOpen_36 : decode cX3_fillOpen 36 = .ok (.aaload, 1) := by decide +kernel
theorem dX3_fillOpen_37 : decode cX3_fillOpen 37 = .ok (.iload 6, 2) := by decide +kernel
theorem dX3_fillOpen_39 : decode cX3_fillOpen 39 = .ok (.laload, 1) := by decide +kernel
theorem dX3_fillOpen_40 : decode cX3_fillOpen 40 = .ok (.aload_n 0, 1) := by decide +kernel
theorem dX3_fillOpen_41 : decode cX3_fillOpen 41 = .ok (.getfield 16, 3) := by decide +kernel
theorem dX3_fillOpen_44 : decode cX3_fillOpen 44 = .ok (.iload 6, 2) := by decide +kernel
theorem dX3_fillOpen_46 : decode cX3_fillOpen 46 = .ok (.iconst 1, 1) := by decide +kernel
theorem dX3_fillOpen_47 : decode cX3_fillOpen 47 = .ok (.iadd, 1) := by decide +kernel
theorem dX3_fillOpen_48 : decode cX3_fillOpen 48 = .ok (.aaload, 1) := by decide +kernel
theorem dX3_fillOpen_49 : decode cX3_fillOpen 49 = .ok (.iload_n 3, 1) := by decide +kernel
theorem dX3_fillOpen_50 : decode cX3_fillOpen 50 = .ok (.laload, 1) := by decide +kernel
theorem dX3_fillOpen_51 : decode cX3_fillOpen 51 = .ok (.invokestatic 51, 3) := by decide +kernel
theorem dX3_fillOpen_54 : decode cX3_fillOpen 54 = .ok (.invokestatic 55, 3) := by decide +kernel
theorem dX3_fillOpen_57 : decode cX3_fillOpen 57 = .ok (.lstore 4, 2) := by decide +kernel
theorem dX3_fillOpen_59 : decode cX3_fillOpen 59 = .ok (.iinc 6 1, 3) := by decide +kernel
theorem dX3_fillOpen_62 : decode cX3_fillOpen 62 = .ok (.goto (-39), 3) := by decide +kernel
theorem dX3_fillOpen_65 : decode cX3_fillOpen 65 = .ok (.aload_n 0, 1) := by decide +kernel
theorem dX3_fillOpen_66 : decode cX3_fillOpen 66 = .ok (.getfield 19, 3) := by decide +kernel
theorem dX3_fillOpen_69 : decode cX3_fillOpen 69 = .ok (.iload_n 2, 1) := by decide +kernel
theorem dX3_fillOpen_70 : decode cX3_fillOpen 70 = .ok (.aaload, 1) := by decide +kernel
theorem dX3_fillOpen_71 : decode cX3_fillOpen 71 = .ok (.iload_n 3, 1) := by decide +kernel
theorem dX3_fillOpen_72 : decode cX3_fillOpen 72 = .ok (.lload 4, 2) := by decide +kernel
theorem dX3_fillOpen_74 : decode cX3_fillOpen 74 = .ok (.aload_n 1, 1) := by decide +kernel
theorem dX3_fillOpen_75 : decode cX3_fillOpen 75 = .ok (.iload_n 2, 1) := by decide +kernel
theorem dX3_fillOpen_76 : decode cX3_fillOpen 76 = .ok (.iload_n 3, 1) := by decide +kernel
theorem dX3_fillOpen_77 : decode cX3_fillOpen 77 = .ok (.invokevirtual 58, 3) := by decide +kernel
theorem dX3_fillOpen_80 : decode cX3_fillOpen 80 = .ok (.invokestatic 51, 3) := by decide +kernel
theorem dX3_fillOpen_83 : decode cX3_fillOpen 83 = .ok (.lastore, 1) := by decide +kernel
theorem dX3_fillOpen_84 : decode cX3_fillOpen 84 = .ok (.aload_n 0, 1) := by decide +kernel
theorem dX3_fillOpen_85 : decode cX3_fillOpen 85 = .ok (.getfield 22, 3) := by decide +kernel
theorem dX3_fillOpen_88 : decode cX3_fillOpen 88 = .ok (.iload_n 2, 1) := by decide +kernel
theorem dX3_fillOpen_89 : decode cX3_fillOpen 89 = .ok (.aaload, 1) := by decide +kernel
theorem dX3_fillOpen_90 : decode cX3_fillOpen 90 = .ok (.iload_n 3, 1) := by decide +kernel
theorem dX3_fillOpen_91 : decode cX3_fillOpen 91 = .ok (.lload 4, 2) := by decide +kernel
theorem dX3_fillOpen_93 : decode cX3_fillOpen 93 = .ok (.aload_n 1, 1) := by decide +kernel
theorem dX3_fillOpen_94 : decode cX3_fillOpen 94 = .ok (.iload_n 3, 1) := by decide +kernel
theorem dX3_fillOpen_95 : decode cX3_fillOpen 95 = .ok (.iload_n 2, 1) := by decide +kernel
theorem dX3_fillOpen_96 : decode cX3_fillOpen 96 = .ok (.invokevirtual 58, 3) := by decide +kernel
theorem dX3_fillOpen_99 : decode cX3_fillOpen 99 = .ok (.invokestatic 51, 3) := by decide +kernel
theorem dX3_fillOpen_102 : decode cX3_fillOpen 102 = .ok (.lastore, 1) := by decide +kernel
theorem dX3_fillOpen_103 : decode cX3_fillOpen 103 = .ok (.return_, 1) := by decide +kernel
set_option maxRecDepth 20000 in
theorem ggX3_fillWhole_X6_isPlace : GoodIn wsX3_fillWhole wsX6_isPlace := goodIn_r _ [12] (by decide +kernel) (by decide +kernel)
set_option maxRecDepth 20000 in
theorem gX3_fillWhole_X6_isPlace_n47 : GoodIn wsX3_fillWhole (wsX6_isPlace) := ggX3_fillWhole_X6_isPlace
set_option maxRecDepth 20000 in
theorem ggX3_fillWhole_X3_join : GoodIn wsX3_fillWhole wsX3_join := goodIn_r _ [16, 1] (by decide +kernel) (by decide +kernel)
set_option maxRecDepth 20000 in
theorem gX3_fillWhole_X3_join : GoodIn wsX3_fillWhole (va_wsS RX3 51 yX3_join wsX3_join) := goodIn_app (goodIn_of _ (by decide +kernel)) ggX3_fillWhole_X3_join
theorem dX3_fillWhole_0 : decode cX3_fillWhole 0 = .ok (.iload_n 1, 1) := by decide +kernel
theorem dX3_fillWhole_1 : decode cX3_fillWhole 1 = .ok (.invokestatic 47, 3) := by decide +kernel
theorem dX3_fillWhole_4 : decode cX3_fillWhole 4 = .ok (.ifCond .eq 10, 3) := by decide +kernel
theorem dX3_fillWhole_7 : decode cX3_fillWhole 7 = .ok (.iload_n 2, 1) := by decide +kernel
theorem dX3_fillWhole_8 : decode cX3_fillWhole 8 = .ok (.invokestatic 47, 3) := by decide +kernel
theorem dX3_fillWhole_11 : decode cX3_fillWhole 11 = .ok (.ifCond .ne 4, 3) := by decide +kernel
theorem dX3_fillWhole_14 : decode cX3_fillWhole 14 = .ok (.return_, 1) := by decide +kernel
theorem dX3_fillWhole_15 : decode cX3_fillWhole 15 = .ok (.ldc2_w 45, 3) := by decide +kernel
theorem dX3_fillWhole_18 : decode cX3_fillWhole 18 = .ok (.lstore_n 3, 1) := by decide +kernel
theorem dX3_fillWhole_19 : decode cX3_fillWhole 19 = .ok (.ldc2_w 45, 3) := by decide +kernel
theorem dX3_fillWhole_22 : decode cX3_fillWhole 22 = .ok (.lstore 5, 2) := by decide +kernel
theorem dX3_fillWhole_24 : decode cX3_fillWhole 24 = .ok (.iload_n 1, 1) := by decide +kernel
theorem dX3_fillWhole_25 : decode cX3_fillWhole 25 = .ok (.istore 7, 2) := by decide +kernel
theorem dX3_fillWhole_27 : decode cX3_fillWhole 27 = .ok (.iload 7, 2) := by decide +kernel
theorem dX3_fillWhole_29 : decode cX3_fillWhole 29 = .ok (.iload_n 2, 1) := by decide +kernel
theorem dX3_fillWhole_30 : decode cX3_fillWhole 30 = .ok (.if_icmp .ge 67, 3) := by decide +kernel
theorem dX3_fillWhole_33 : decode cX3_fillWhole 33 = .ok (.lload_n 3, 1) := by decide +kernel
theorem dX3_fillWhole_34 : decode cX3_fillWhole 34 = .ok (.aload_n 0, 1) := by decide +kernel
theorem dX3_fillWhole_35 : decode cX3_fillWhole 35 = .ok (.getfield 19, 3) := by decide +kernel
theorem dX3_fillWhole_38 : decode cX3_fillWhole 38 = .ok (.iload_n 1, 1) := by decide +kernel
theorem dX3_fillWhole_39 : decode cX3_fillWhole 39 = .ok (.aaload, 1) := by decide +kernel
theorem dX3_fillWhole_40 : decode cX3_fillWhole 40 = .ok (.iload 7, 2) := by decide +kernel
theorem dX3_fillWhole_42 : decode cX3_fillWhole 42 = .ok (.iconst 1, 1) := by decide +kernel
theorem dX3_fillWhole_43 : decode cX3_fillWhole 43 = .ok (.iadd, 1) := by decide +kernel
theorem dX3_fillWhole_44 : decode cX3_fillWhole 44 = .ok (.laload, 1) := by decide +kernel
theorem dX3_fillWhole_45 : decode cX3_fillWhole 45 = .ok (.aload_n 0, 1) := by decide +kernel
theorem dX3_fillWhole_46 : decode cX3_fillWhole 46 = .ok (.getfield 11, 3) := by decide +kernel
theorem dX3_fillWhole_49 : decode cX3_fillWhole 49 = .ok (.iload 7, 2) := by decide +kernel
theorem dX3_fillWhole_51 : decode cX3_fillWhole 51 = .ok (.iconst 1, 1) := by decide +kernel
theorem dX3_fillWhole_52 : decode cX3_fillWhole 52 = .ok (.iadd, 1) := by decide +kernel
theorem dX3_fillWhole_53 : decode cX3_fillWhole 53 = .ok (.aaload, 1) := by decide +kernel
theorem dX3_fillWhole_54 : decode cX3_fillWhole 54 = .ok (.iload_n 2, 1) := by decide +kernel
theorem dX3_fillWhole_55 : decode cX3_fillWhole 55 = .ok (.laload, 1) := by decide +kernel
theorem dX3_fillWhole_56 : decode cX3_fillWhole 56 = .ok (.invokestatic 51, 3) := by decide +kernel
theorem dX3_fillWhole_59 : decode cX3_fillWhole 59 = .ok (.invokestatic 55, 3) := by decide +kernel
theorem dX3_fillWhole_62 : decode cX3_fillWhole 62 = .ok (.lstore_n 3, 1) := by decide +kernel
theorem dX3_fillWhole_63 : decode cX3_fillWhole 63 = .ok (.lload 5, 2) := by decide +kernel
theorem dX3_fillWhole_65 : decode cX3_fillWhole 65 = .ok (.aload_n 0, 1) := by decide +kernel
theorem dX3_fillWhole_66 : decode cX3_fillWhole 66 = .ok (.getfield 16, 3) := by decide +kernel
theorem dX3_fillWhole_69 : decode cX3_fillWhole 69 = .ok (.iload_n 1, 1) := by decide +kernel
theorem dX3_fillWhole_70 : decode cX3_fillWhole 70 = .ok (.aaload, 1) := by decide +kernel
theorem dX3_fillWhole_71 : decode cX3_fillWhole 71 = .ok (.iload 7, 2) := by decide +kernel
theorem dX3_fillWhole_73 : decode cX3_fillWhole 73 = .ok (.laload, 1) := by decide +kernel
theorem dX3_fillWhole_74 : decode cX3_fillWhole 74 = .ok (.aload_n 0, 1) := by decide +kernel
theorem dX3_fillWhole_75 : decode cX3_fillWhole 75 = .ok (.getfield 22, 3) := by decide +kernel
theorem dX3_fillWhole_78 : decode cX3_fillWhole 78 = .ok (.iload 7, 2) := by decide +kernel
theorem dX3_fillWhole_80 : decode cX3_fillWhole 80 = .ok (.aaload, 1) := by decide +kernel
theorem dX3_fillWhole_81 : decode cX3_fillWhole 81 = .ok (.iload_n 2, 1) := by decide +kernel
theorem dX3_fillWhole_82 : decode cX3_fillWhole 82 = .ok (.laload, 1) := by decide +kernel
theorem dX3_fillWhole_83 : decode cX3_fillWhole 83 = .ok (.invokestatic 51, 3) := by decide +kernel
theorem dX3_fillWhole_86 : decode cX3_fillWhole 86 = .ok (.invokestatic 55, 3) := by decide +kernel
theorem dX3_fillWhole_89 : decode cX3_fillWhole 89 = .ok (.lstore 5, 2) := by decide +kernel
theorem dX3_fillWhole_91 : decode cX3_fillWhole 91 = .ok (.iinc 7 1, 3) := by decide +kernel
theorem dX3_fillWhole_94 : decode cX3_fillWhole 94 = .ok (.goto (-67), 3) := by decide +kernel
theorem dX3_fillWhole_97 : decode cX3_fillWhole 97 = .ok (.aload_n 0, 1) := by decide +kernel
theorem dX3_fillWhole_98 : decode cX3_fillWhole 98 = .ok (.getfield 11, 3) := by decide +kernel
theorem dX3_fillWhole_101 : decode cX3_fillWhole 101 = .ok (.iload_n 1, 1) := by decide +kernel
theorem dX3_fillWhole_102 : decode cX3_fillWhole 102 = .ok (.aaload, 1) := by decide +kernel
theorem dX3_fillWhole_103 : decode cX3_fillWhole 103 = .ok (.iload_n 2, 1) := by decide +kernel
theorem dX3_fillWhole_104 : decode cX3_fillWhole 104 = .ok (.lload_n 3, 1) := by decide +kernel
theorem dX3_fillWhole_105 : decode cX3_fillWhole 105 = .ok (.lastore, 1) := by decide +kernel
theorem dX3_fillWhole_106 : decode cX3_fillWhole 106 = .ok (.aload_n 0, 1) := by decide +kernel
theorem dX3_fillWhole_107 : decode cX3_fillWhole 107 = .ok (.getfield 16, 3) := by decide +kernel
theorem dX3_fillWhole_110 : decode cX3_fillWhole 110 = .ok (.iload_n 1, 1) := by decide +kernel
theorem dX3_fillWhole_111 : decode cX3_fillWhole 111 = .ok (.aaload, 1) := by decide +kernel
theorem dX3_fillWhole_112 : decode cX3_fillWhole 112 = .ok (.iload_n 2, 1) := by decide +kernel
theorem dX3_fillWhole_113 : decode cX3_fillWhole 113 = .ok (.lload 5, 2) := by decide +kernel
theorem dX3_fillWhole_115 : decode cX3_fillWhole 115 = .ok (.lastore, 1) := by decide +kernel
theorem dX3_fillWhole_116 : decode cX3_fillWhole 116 = .ok (.return_, 1) := by decide +kernel
theorem dX3_join_0 : decode cX3_join 0 = .ok (.lload_n 0, 1) := by decide +kernel
theorem dX3_join_1 : decode cX3_join 1 = .ok (.ldc2_w 45, 3) := by decide +kernel
theorem dX3_join_4 : decode cX3_join 4 = .ok (.lcmp, 1) := by decide +kernel
theorem dX3_join_5 : decode cX3_join 5 = .ok (.ifCond .eq 11, 3) := by decide +kernel
theorem dX3_join_8 : decode cX3_join 8 = .ok (.lload_n 2, 1) := by decide +kernel
theorem dX3_join_9 : decode cX3_join 9 = .ok (.ldc2_w 45, 3) := by decide +kernel
theorem dX3_join_12 : decode cX3_join 12 = .ok (.lcmp, 1) := by decide +kernel
theorem dX3_join_13 : decode cX3_join 13 = .ok (.ifCond .ne 9, 3) := by decide +kernel
theorem dX3_join_16 : decode cX3_join 16 = .ok (.ldc2_w 45, 3) := by decide +kernel
theorem dX3_join_19 : decode cX3_join 19 = .ok (.goto 6, 3) := by decide +kernel
theorem dX3_join_22 : decode cX3_join 22 = .ok (.lload_n 0, 1) := by decide +kernel
theorem dX3_join_23 : decode cX3_join 23 = .ok (.lload_n 2, 1) := by decide +kernel
theorem dX3_join_24 : decode cX3_join 24 = .ok (.ladd, 1) := by decide +kernel
theorem dX3_join_25 : decode cX3_join 25 = .ok (.lreturn, 1) := by decide +kernel
theorem dX4_init_0 : decode cX4_init 0 = .ok (.aload_n 0, 1) := by decide +kernel
theorem dX4_init_1 : decode cX4_init 1 = .ok (.invokespecial 3, 3) := by decide +kernel
theorem dX4_init_4 : decode cX4_init 4 = .ok (.aload_n 0, 1) := by decide +kernel
theorem dX4_init_5 : decode cX4_init 5 = .ok (.sipush 16807, 3) := by decide +kernel
theorem dX4_init_8 : decode cX4_init 8 = .ok (.newarray .long, 2) := by decide +kernel
theorem dX4_init_10 : decode cX4_init 10 = .ok (.putfield 9, 3) := by decide +kernel
theorem dX4_init_13 : decode cX4_init 13 = .ok (.aload_n 0, 1) := by decide +kernel
theorem dX4_init_14 : decode cX4_init 14 = .ok (.bipush 7, 2) := by decide +kernel
theorem dX4_init_16 : decode cX4_init 16 = .ok (.newarray .int, 2) := by decide +kernel
theorem dX4_init_18 : decode cX4_init 18 = .ok (.putfield 15, 3) := by decide +kernel
theorem dX4_init_21 : decode cX4_init 21 = .ok (.aload_n 0, 1) := by decide +kernel
theorem dX4_init_22 : decode cX4_init 22 = .ok (.iconst 0, 1) := by decide +kernel
theorem dX4_init_23 : decode cX4_init 23 = .ok (.putfield 19, 3) := by decide +kernel
theorem dX4_init_26 : decode cX4_init 26 = .ok (.return_, 1) := by decide +kernel
set_option maxRecDepth 20000 in
theorem ggX4_run_X4_giveHeads : GoodIn wsX4_run wsX4_giveHeads := goodIn_r _ [5, 6, 7, 8, 9, 10, 11, 12, 13, 14, 15, 16, 4, 17, 1, 18, 19, 20, 21, 22, 23, 24, 25, 26, 27, 28, 29, 30, 31, 32, 33, 34, 35, 36, 37, 38, 39, 40, 41, 42, 43, 44, 2, 3, 45, 46, 47, 48, 49] (by decide +kernel) (by decide +kernel)
set_option maxRecDepth 20000 in
theorem gX4_run_X4_giveHeads : GoodIn wsX4_run (va_wsS RX4 23 yX4_giveHeads wsX4_giveHeads) := goodIn_app (goodIn_of _ (by decide +kernel)) ggX4_run_X4_giveHeads
theorem dX4_run_0 : decode cX4_run 0 = .ok (.aload_n 0, 1) := by decide +kernel
theorem dX4_run_1 : decode cX4_run 1 = .ok (.iconst 0, 1) := by decide +kernel
theorem dX4_run_2 : decode cX4_run 2 = .ok (.putfield 19, 3) := by decide +kernel
theorem dX4_run_5 : decode cX4_run 5 = .ok (.aload_n 0, 1) := by decide +kernel
theorem dX4_run_6 : decode cX4_run 6 = .ok (.aload_n 1, 1) := by decide +kernel
theorem dX4_run_7 : decode cX4_run 7 = .ok (.iload_n 2, 1) := by decide +kernel
theorem dX4_run_8 : decode cX4_run 8 = .ok (.iconst 1, 1) := by decide +kernel
theorem dX4_run_9 : decode cX4_run 9 = .ok (.lconst 0, 1) := by decide +kernel
theorem dX4_run_10 : decode cX4_run 10 = .ok (.invokestatic 23, 3) := by decide +kernel
theorem dX4_run_13 : decode cX4_run 13 = .ok (.return_, 1) := by decide +kernel
theorem dX4_size_0 : decode cX4_size 0 = .ok (.aload_n 0, 1) := by decide +kernel
theorem dX4_size_1 : decode cX4_size 1 = .ok (.getfield 19, 3) := by decide +kernel
theorem dX4_size_4 : decode cX4_size 4 = .ok (.ireturn, 1) := by decide +kernel
theorem dX4_greatest_0 : decode cX4_greatest 0 = .ok (.ldc2_w 27, 3) := by decide +kernel
theorem dX4_greatest_3 : decode cX4_greatest 3 = .ok (.lstore_n 1, 1) := by decide +kernel
theorem dX4_greatest_4 : decode cX4_greatest 4 = .ok (.iconst 0, 1) := by decide +kernel
theorem dX4_greatest_5 : decode cX4_greatest 5 = .ok (.istore_n 3, 1) := by decide +kernel
theorem dX4_greatest_6 : decode cX4_greatest 6 = .ok (.iload_n 3, 1) := by decide +kernel
theorem dX4_greatest_7 : decode cX4_greatest 7 = .ok (.aload_n 0, 1) := by decide +kernel
theorem dX4_greatest_8 : decode cX4_greatest 8 = .ok (.getfield 19, 3) := by decide +kernel
theorem dX4_greatest_11 : decode cX4_greatest 11 = .ok (.if_icmp .ge 29, 3) := by decide +kernel
theorem dX4_greatest_14 : decode cX4_greatest 14 = .ok (.iload_n 3, 1) := by decide +kernel
theorem dX4_greatest_15 : decode cX4_greatest 15 = .ok (.aload_n 0, 1) := by decide +kernel
theorem dX4_greatest_16 : decode cX4_greatest 16 = .ok (.getfield 9, 3) := by decide +kernel
theorem dX4_greatest_19 : decode cX4_greatest 19 = .ok (.arraylength, 1) := by decide +kernel
theorem dX4_greatest_20 : decode cX4_greatest 20 = .ok (.if_icmp .ge 20, 3) := by decide +kernel
theorem dX4_greatest_23 : decode cX4_greatest 23 = .ok (.lload_n 1, 1) := by decide +kernel
theorem dX4_greatest_24 : decode cX4_greatest 24 = .ok (.aload_n 0, 1) := by decide +kernel
theorem dX4_greatest_25 : decode cX4_greatest 25 = .ok (.getfield 9, 3) := by decide +kernel
theorem dX4_greatest_28 : decode cX4_greatest 28 = .ok (.iload_n 3, 1) := by decide +kernel
theorem dX4_greatest_29 : decode cX4_greatest 29 = .ok (.laload, 1) := by decide +kernel
theorem dX4_greatest_30 : decode cX4_greatest 30 = .ok (.invokestatic 29, 3) := by decide +kernel
theorem dX4_greatest_33 : decode cX4_greatest 33 = .ok (.lstore_n 1, 1) := by decide +kernel
theorem dX4_greatest_34 : decode cX4_greatest 34 = .ok (.iinc 3 1, 3) := by decide +kernel
theorem dX4_greatest_37 : decode cX4_greatest 37 = .ok (.goto (-31), 3) := by decide +kernel
theorem dX4_greatest_40 : decode cX4_greatest 40 = .ok (.lload_n 1, 1) := by decide +kernel
theorem dX4_greatest_41 : decode cX4_greatest 41 = .ok (.lreturn, 1) := by decide +kernel
set_option maxRecDepth 20000 in
theorem ggX4_ofRank_X4_greatest : GoodIn wsX4_ofRank wsX4_greatest := goodIn_r _ [6, 7, 8, 9, 10, 11, 12, 13, 25, 26, 27] (by decide +kernel) (by decide +kernel)
set_option maxRecDepth 20000 in
theorem gX4_ofRank_X4_greatest : GoodIn wsX4_ofRank (wsV RX4 35 RX4 yX4_greatest wsX4_greatest) := goodIn_app (goodIn_of _ (by decide +kernel)) ggX4_ofRank_X4_greatest
set_option maxRecDepth 20000 in
theorem ggX4_ofRank_X4_least : GoodIn wsX4_ofRank wsX4_least := goodIn_r _ [17, 8, 9, 18, 19, 12, 20, 25, 26, 27] (by decide +kernel) (by decide +kernel)
set_option maxRecDepth 20000 in
theorem gX4_ofRank_X4_least : GoodIn wsX4_ofRank (wsV RX4 39 RX4 yX4_least wsX4_least) := goodIn_app (goodIn_of _ (by decide +kernel)) ggX4_ofRank_X4_least
set_option maxRecDepth 20000 in
theorem ggX4_ofRank_X4_countAbove : GoodIn wsX4_ofRank wsX4_countAbove := goodIn_r _ [24, 8, 9, 25, 26, 27] (by decide +kernel) (by decide +kernel)
set_option maxRecDepth 20000 in
theorem gX4_ofRank_X4_countAbove : GoodIn wsX4_ofRank (wsV RX4 45 RX4 yX4_countAbove wsX4_countAbove) := goodIn_app (goodIn_of _ (by decide +kernel)) ggX4_ofRank_X4_countAbove
theorem dX4_ofRank_0 : decode cX4_ofRank 0 = .ok (.aload_n 0, 1) := by decide +kernel
theorem dX4_ofRank_1 : decode cX4_ofRank 1 = .ok (.invokevirtual 35, 3) := by decide +kernel
theorem dX4_ofRank_4 : decode cX4_ofRank 4 = .ok (.lstore_n 2, 1) := by decide +kernel
theorem dX4_ofRank_5 : decode cX4_ofRank 5 = .ok (.aload_n 0, 1) := by decide +kernel
theorem dX4_ofRank_6 : decode cX4_ofRank 6 = .ok (.lload_n 2, 1) := by decide +kernel
theorem dX4_ofRank_7 : decode cX4_ofRank 7 = .ok (.invokevirtual 39, 3) := by decide +kernel
theorem dX4_ofRank_10 : decode cX4_ofRank 10 = .ok (.lstore 4, 2) := by decide +kernel
theorem dX4_ofRank_12 : decode cX4_ofRank 12 = .ok (.iconst 0, 1) := by decide +kernel
theorem dX4_ofRank_13 : decode cX4_ofRank 13 = .ok (.istore 6, 2) := by decide +kernel
theorem dX4_ofRank_15 : decode cX4_ofRank 15 = .ok (.iload 6, 2) := by decide +kernel
theorem dX4_ofRank_17 : decode cX4_ofRank 17 = .ok (.bipush 64, 2) := by decide +kernel
theorem dX4_ofRank_19 : decode cX4_ofRank 19 = .ok (.if_icmp .ge 51, 3) := by decide +kernel
theorem dX4_ofRank_22 : decode cX4_ofRank 22 = .ok (.lload 4, 2) := by decide +kernel
theorem dX4_ofRank_24 : decode cX4_ofRank 24 = .ok (.lload_n 2, 1) := by decide +kernel
theorem dX4_ofRank_25 : decode cX4_ofRank 25 = .ok (.lcmp, 1) := by decide +kernel
theorem dX4_ofRank_26 : decode cX4_ofRank 26 = .ok (.ifCond .ge 44, 3) := by decide +kernel
theorem dX4_ofRank_29 : decode cX4_ofRank 29 = .ok (.lload 4, 2) := by decide +kernel
theorem dX4_ofRank_31 : decode cX4_ofRank 31 = .ok (.lload_n 2, 1) := by decide +kernel
theorem dX4_ofRank_32 : decode cX4_ofRank 32 = .ok (.lload 4, 2) := by decide +kernel
theorem dX4_ofRank_34 : decode cX4_ofRank 34 = .ok (.lsub, 1) := by decide +kernel
theorem dX4_ofRank_35 : decode cX4_ofRank 35 = .ok (.ldc2_w 43, 3) := by decide +kernel
theorem dX4_ofRank_38 : decode cX4_ofRank 38 = .ok (.ldiv, 1) := by decide +kernel
theorem dX4_ofRank_39 : decode cX4_ofRank 39 = .ok (.ladd, 1) := by decide +kernel
theorem dX4_ofRank_40 : decode cX4_ofRank 40 = .ok (.lstore 7, 2) := by decide +kernel
theorem dX4_ofRank_42 : decode cX4_ofRank 42 = .ok (.aload_n 0, 1) := by decide +kernel
theorem dX4_ofRank_43 : decode cX4_ofRank 43 = .ok (.lload 7, 2) := by decide +kernel
theorem dX4_ofRank_45 : decode cX4_ofRank 45 = .ok (.invokevirtual 45, 3) := by decide +kernel
theorem dX4_ofRank_48 : decode cX4_ofRank 48 = .ok (.iload_n 1, 1) := by decide +kernel
theorem dX4_ofRank_49 : decode cX4_ofRank 49 = .ok (.if_icmp .le 12, 3) := by decide +kernel
theorem dX4_ofRank_52 : decode cX4_ofRank 52 = .ok (.lload 7, 2) := by decide +kernel
theorem dX4_ofRank_54 : decode cX4_ofRank 54 = .ok (.lconst 1, 1) := by decide +kernel
theorem dX4_ofRank_55 : decode cX4_ofRank 55 = .ok (.ladd, 1) := by decide +kernel
theorem dX4_ofRank_56 : decode cX4_ofRank 56 = .ok (.lstore 4, 2) := by decide +kernel
theorem dX4_ofRank_58 : decode cX4_ofRank 58 = .ok (.goto 6, 3) := by decide +kernel
theorem dX4_ofRank_61 : decode cX4_ofRank 61 = .ok (.lload 7, 2) := by decide +kernel
theorem dX4_ofRank_63 : decode cX4_ofRank 63 = .ok (.lstore_n 2, 1) := by decide +kernel
theorem dX4_ofRank_64 : decode cX4_ofRank 64 = .ok (.iinc 6 1, 3) := by decide +kernel
theorem dX4_ofRank_67 : decode cX4_ofRank 67 = .ok (.goto (-52), 3) := by decide +kernel
theorem dX4_ofRank_70 : decode cX4_ofRank 70 = .ok (.lload 4, 2) := by decide +kernel
theorem dX4_ofRank_72 : decode cX4_ofRank 72 = .ok (.lreturn, 1) := by decide +kernel
theorem dX4_least_0 : decode cX4_least 0 = .ok (.lload_n 1, 1) := by decide +kernel
theorem dX4_least_1 : decode cX4_least 1 = .ok (.lstore_n 3, 1) := by decide +kernel
theorem dX4_least_2 : decode cX4_least 2 = .ok (.iconst 0, 1) := by decide +kernel
theorem dX4_least_3 : decode cX4_least 3 = .ok (.istore 5, 2) := by decide +kernel
theorem dX4_least_5 : decode cX4_least 5 = .ok (.iload 5, 2) := by decide +kernel
theorem dX4_least_7 : decode cX4_least 7 = .ok (.aload_n 0, 1) := by decide +kernel
theorem dX4_least_8 : decode cX4_least 8 = .ok (.getfield 19, 3) := by decide +kernel
theorem dX4_least_11 : decode cX4_least 11 = .ok (.if_icmp .ge 31, 3) := by decide +kernel
theorem dX4_least_14 : decode cX4_least 14 = .ok (.iload 5, 2) := by decide +kernel
theorem dX4_least_16 : decode cX4_least 16 = .ok (.aload_n 0, 1) := by decide +kernel
theorem dX4_least_17 : decode cX4_least 17 = .ok (.getfield 9, 3) := by decide +kernel
theorem dX4_least_20 : decode cX4_least 20 = .ok (.arraylength, 1) := by decide +kernel
theorem dX4_least_21 : decode cX4_least 21 = .ok (.if_icmp .ge 21, 3) := by decide +kernel
theorem dX4_least_24 : decode cX4_least 24 = .ok (.lload_n 3, 1) := by decide +kernel
theorem dX4_least_25 : decode cX4_least 25 = .ok (.aload_n 0, 1) := by decide +kernel
theorem dX4_least_26 : decode cX4_least 26 = .ok (.getfield 9, 3) := by decide +kernel
theorem dX4_least_29 : decode cX4_least 29 = .ok (.iload 5, 2) := by decide +kernel
theorem dX4_least_31 : decode cX4_least 31 = .ok (.laload, 1) := by decide +kernel
theorem dX4_least_32 : decode cX4_least 32 = .ok (.invokestatic 49, 3) := by decide +kernel
theorem dX4_least_35 : decode cX4_least 35 = .ok (.lstore_n 3, 1) := by decide +kernel
theorem dX4_least_36 : decode cX4_least 36 = .ok (.iinc 5 1, 3) := by decide +kernel
theorem dX4_least_39 : decode cX4_least 39 = .ok (.goto (-34), 3) := by decide +kernel
theorem dX4_least_42 : decode cX4_least 42 = .ok (.lload_n 3, 1) := by decide +kernel
theorem dX4_least_43 : decode cX4_least 43 = .ok (.lreturn, 1) := by decide +kernel
theorem dX4_countAbove_0 : decode cX4_countAbove 0 = .ok (.iconst 0, 1) := by decide +kernel
theorem dX4_countAbove_1 : decode cX4_countAbove 1 = .ok (.istore_n 3, 1) := by decide +kernel
theorem dX4_countAbove_2 : decode cX4_countAbove 2 = .ok (.iconst 0, 1) := by decide +kernel
theorem dX4_countAbove_3 : decode cX4_countAbove 3 = .ok (.istore 4, 2) := by decide +kernel
theorem dX4_countAbove_5 : decode cX4_countAbove 5 = .ok (.iload 4, 2) := by decide +kernel
theorem dX4_countAbove_7 : decode cX4_countAbove 7 = .ok (.aload_n 0, 1) := by decide +kernel
theorem dX4_countAbove_8 : decode cX4_countAbove 8 = .ok (.getfield 19, 3) := by decide +kernel
theorem dX4_countAbove_11 : decode cX4_countAbove 11 = .ok (.if_icmp .ge 34, 3) := by decide +kernel
theorem dX4_countAbove_14 : decode cX4_countAbove 14 = .ok (.iload 4, 2) := by decide +kernel
theorem dX4_countAbove_16 : decode cX4_countAbove 16 = .ok (.aload_n 0, 1) := by decide +kernel
theorem dX4_countAbove_17 : decode cX4_countAbove 17 = .ok (.getfield 9, 3) := by decide +kernel
theorem dX4_countAbove_20 : decode cX4_countAbove 20 = .ok (.arraylength, 1) := by decide +kernel
theorem dX4_countAbove_21 : decode cX4_countAbove 21 = .ok (.if_icmp .ge 24, 3) := by decide +kernel
theorem dX4_countAbove_24 : decode cX4_countAbove 24 = .ok (.aload_n 0, 1) := by decide +kernel
theorem dX4_countAbove_25 : decode cX4_countAbove 25 = .ok (.getfield 9, 3) := by decide +kernel
theorem dX4_countAbove_28 : decode cX4_countAbove 28 = .ok (.iload 4, 2) := by decide +kernel
theorem dX4_countAbove_30 : decode cX4_countAbove 30 = .ok (.laload, 1) := by decide +kernel
theorem dX4_countAbove_31 : decode cX4_countAbove 31 = .ok (.lload_n 1, 1) := by decide +kernel
theorem dX4_countAbove_32 : decode cX4_countAbove 32 = .ok (.lcmp, 1) := by decide +kernel
theorem dX4_countAbove_33 : decode cX4_countAbove 33 = .ok (.ifCond .le 6, 3) := by decide +kernel
theorem dX4_countAbove_36 : decode cX4_countAbove 36 = .ok (.iinc 3 1, 3) := by decide +kernel
theorem dX4_countAbove_39 : decode cX4_countAbove 39 = .ok (.iinc 4 1, 3) := by decide +kernel
theorem dX4_countAbove_42 : decode cX4_countAbove 42 = .ok (.goto (-37), 3) := by decide +kernel
theorem dX4_countAbove_45 : decode cX4_countAbove 45 = .ok (.iload_n 3, 1) := by decide +kernel
theorem dX4_countAbove_46 : decode cX4_countAbove 46 = .ok (.ireturn, 1) := by decide +kernel
set_option maxRecDepth 20000 in
theorem ggX4_giveHeads_X0_size : GoodIn wsX4_giveHeads wsX0_size := goodIn_r _ [7, 8, 47, 48] (by decide +kernel) (by decide +kernel)
set_option maxRecDepth 20000 in
theorem gX4_giveHeads_X0_size : GoodIn wsX4_giveHeads (wsV RX4 52 RX0 yX0_size wsX0_size) := goodIn_app (goodIn_of _ (by decide +kernel)) ggX4_giveHeads_X0_size
set_option maxRecDepth 20000 in
theorem ggX4_giveHeads_X4_note : GoodIn wsX4_giveHeads wsX4_note := goodIn_r _ [13, 14, 15, 44, 45, 46] (by decide +kernel) (by decide +kernel)
set_option maxRecDepth 20000 in
theorem gX4_giveHeads_X4_note : GoodIn wsX4_giveHeads (wsV RX4 58 RX4 yX4_note wsX4_note) := goodIn_app (goodIn_of _ (by decide +kernel)) ggX4_giveHeads_X4_note
set_option maxRecDepth 20000 in
theorem ggX4_giveHeads_X0_get : GoodIn wsX4_giveHeads wsX0_get := goodIn_r _ [19, 20, 21, 22, 23, 24, 47, 48] (by decide +kernel) (by decide +kernel)
set_option maxRecDepth 20000 in
theorem gX4_giveHeads_X0_get : GoodIn wsX4_giveHeads (wsV RX4 62 RX0 yX0_get wsX0_get) := goodIn_app (goodIn_of _ (by decide +kernel)) ggX4_giveHeads_X0_get
set_option maxRecDepth 20000 in
theorem ggX4_giveHeads_X4_closesCircle : GoodIn wsX4_giveHeads wsX4_closesCircle := goodIn_r _ [28, 2, 44, 45, 46] (by decide +kernel) (by decide +kernel)
set_option maxRecDepth 20000 in
theorem gX4_giveHeads_X4_closesCircle : GoodIn wsX4_giveHeads (wsV RX4 66 RX4 yX4_closesCircle wsX4_closesCircle) := goodIn_app (goodIn_of _ (by decide +kernel)) ggX4_giveHeads_X4_closesCircle
set_option maxRecDepth 20000 in
theorem ggX4_giveHeads_X4_crossesEarlier : GoodIn wsX4_giveHeads wsX4_crossesEarlier := goodIn_r _ [32, 2, 33, 23, 34, 35, 36, 37, 38, 39, 40, 41, 44, 45, 46] (by decide +kernel) (by decide +kernel)
set_option maxRecDepth 20000 in
theorem gX4_giveHeads_X4_crossesEarlier : GoodIn wsX4_giveHeads (wsV RX4 70 RX4 yX4_crossesEarlier wsX4_crossesEarlier) := goodIn_app (goodIn_of _ (by decide +kernel)) ggX4_giveHeads_X4_crossesEarlier
set_option maxRecDepth 20000 in
theorem ggX4_giveHeads_X4_giveHeads : GoodIn wsX4_giveHeads wsX4_giveHeads := goodIn_r _ [0, 1, 2, 3, 4, 5, 6, 7, 8, 9, 10, 11, 12, 13, 14, 15, 16, 17, 18, 19, 20, 21, 22, 23, 24, 25, 26, 27, 28, 29, 30, 31, 32, 33, 34, 35, 36, 37, 38, 39, 40, 41, 42, 43, 44, 45, 46, 47, 48] (by decide +kernel) (by decide +kernel)
set_option maxRecDepth 20000 in
theorem gX4_giveHeads_X4_giveHeads : GoodIn wsX4_giveHeads (va_wsS RX4 23 yX4_giveHeads wsX4_giveHeads) := goodIn_app (goodIn_of _ (by decide +kernel)) ggX4_giveHeads_X4_giveHeads
theorem dX4_giveHeads_0 : decode cX4_giveHeads 0 = .ok (.iload_n 3, 1) := by decide +kernel
theorem dX4_giveHeads_1 : decode cX4_giveHeads 1 = .ok (.aload_n 1, 1) := by decide +kernel
theorem dX4_giveHeads_2 : decode cX4_giveHeads 2 = .ok (.invokevirtual 52, 3) := by decide +kernel
theorem dX4_giveHeads_5 : decode cX4_giveHeads 5 = .ok (.if_icmp .gt 9, 3) := by decide +kernel
theorem dX4_giveHeads_8 : decode cX4_giveHeads 8 = .ok (.iload_n 3, 1) := by decide +kernel
theorem dX4_giveHeads_9 : decode cX4_giveHeads 9 = .ok (.bipush 6, 2) := by decide +kernel
theorem dX4_giveHeads_11 : decode cX4_giveHeads 11 = .ok (.if_icmp .le 10, 3) := by decide +kernel
theorem dX4_giveHeads_14 : decode cX4_giveHeads 14 = .ok (.aload_n 0, 1) := by decide +kernel
theorem dX4_giveHeads_15 : decode cX4_giveHeads 15 = .ok (.lload 4, 2) := by decide +kernel
theorem dX4_giveHeads_17 : decode cX4_giveHeads 17 = .ok (.invokevirtual 58, 3) := by decide +kernel
theorem dX4_giveHeads_20 : decode cX4_giveHeads 20 = .ok (.return_, 1) := by decide +kernel
theorem dX4_giveHeads_21 : decode cX4_giveHeads 21 = .ok (.iconst 0, 1) := by decide +kernel
theorem dX4_giveHeads_22 : decode cX4_giveHeads 22 = .ok (.istore 6, 2) := by decide +kernel
theorem dX4_giveHeads_24 : decode cX4_giveHeads 24 = .ok (.iload 6, 2) := by decide +kernel
theorem dX4_giveHeads_26 : decode cX4_giveHeads 26 = .ok (.aload_n 1, 1) := by decide +kernel
theorem dX4_giveHeads_27 : decode cX4_giveHeads 27 = .ok (.invokevirtual 52, 3) := by decide +kernel
theorem dX4_giveHeads_30 : decode cX4_giveHeads 30 = .ok (.if_icmp .gt 73, 3) := by decide +kernel
theorem dX4_giveHeads_33 : decode cX4_giveHeads 33 = .ok (.aload_n 1, 1) := by decide +kernel
theorem dX4_giveHeads_34 : decode cX4_giveHeads 34 = .ok (.iload 6, 2) := by decide +kernel
theorem dX4_giveHeads_36 : decode cX4_giveHeads 36 = .ok (.iload_n 3, 1) := by decide +kernel
theorem dX4_giveHeads_37 : decode cX4_giveHeads 37 = .ok (.invokevirtual 62, 3) := by decide +kernel
theorem dX4_giveHeads_40 : decode cX4_giveHeads 40 = .ok (.lstore 7, 2) := by decide +kernel
theorem dX4_giveHeads_42 : decode cX4_giveHeads 42 = .ok (.lload 7, 2) := by decide +kernel
theorem dX4_giveHeads_44 : decode cX4_giveHeads 44 = .ok (.ldc2_w 27, 3) := by decide +kernel
theorem dX4_giveHeads_47 : decode cX4_giveHeads 47 = .ok (.lcmp, 1) := by decide +kernel
theorem dX4_giveHeads_48 : decode cX4_giveHeads 48 = .ok (.ifCond .eq 49, 3) := by decide +kernel
theorem dX4_giveHeads_51 : decode cX4_giveHeads 51 = .ok (.aload_n 0, 1) := by decide +kernel
theorem dX4_giveHeads_52 : decode cX4_giveHeads 52 = .ok (.iload 6, 2) := by decide +kernel
theorem dX4_giveHeads_54 : decode cX4_giveHeads 54 = .ok (.iload_n 3, 1) := by decide +kernel
theorem dX4_giveHeads_55 : decode cX4_giveHeads 55 = .ok (.invokevirtual 66, 3) := by decide +kernel
theorem dX4_giveHeads_58 : decode cX4_giveHeads 58 = .ok (.ifCond .ne 39, 3) := by decide +kernel
theorem dX4_giveHeads_61 : decode cX4_giveHeads 61 = .ok (.iload_n 2, 1) := by decide +kernel
theorem dX4_giveHeads_62 : decode cX4_giveHeads 62 = .ok (.ifCond .ne 13, 3) := by decide +kernel
theorem dX4_giveHeads_65 : decode cX4_giveHeads 65 = .ok (.aload_n 0, 1) := by decide +kernel
theorem dX4_giveHeads_66 : decode cX4_giveHeads 66 = .ok (.iload 6, 2) := by decide +kernel
theorem dX4_giveHeads_68 : decode cX4_giveHeads 68 = .ok (.iload_n 3, 1) := by decide +kernel
theorem dX4_giveHeads_69 : decode cX4_giveHeads 69 = .ok (.invokevirtual 70, 3) := by decide +kernel
theorem dX4_giveHeads_72 : decode cX4_giveHeads 72 = .ok (.ifCond .ne 25, 3) := by decide +kernel
theorem dX4_giveHeads_75 : decode cX4_giveHeads 75 = .ok (.aload_n 0, 1) := by decide +kernel
theorem dX4_giveHeads_76 : decode cX4_giveHeads 76 = .ok (.getfield 15, 3) := by decide +kernel
theorem dX4_giveHeads_79 : decode cX4_giveHeads 79 = .ok (.iload_n 3, 1) := by decide +kernel
theorem dX4_giveHeads_80 : decode cX4_giveHeads 80 = .ok (.iload 6, 2) := by decide +kernel
theorem dX4_giveHeads_82 : decode cX4_giveHeads 82 = .ok (.iastore, 1) := by decide +kernel
theorem dX4_giveHeads_83 : decode cX4_giveHeads 83 = .ok (.aload_n 0, 1) := by decide +kernel
theorem dX4_giveHeads_84 : decode cX4_giveHeads 84 = .ok (.aload_n 1, 1) := by decide +kernel
theorem dX4_giveHeads_85 : decode cX4_giveHeads 85 = .ok (.iload_n 2, 1) := by decide +kernel
theorem dX4_giveHeads_86 : decode cX4_giveHeads 86 = .ok (.iload_n 3, 1) := by decide +kernel
theorem dX4_giveHeads_87 : decode cX4_giveHeads 87 = .ok (.iconst 1, 1) := by decide +kernel
theorem dX4_giveHeads_88 : decode cX4_giveHeads 88 = .ok (.iadd, 1) := by decide +kernel
theorem dX4_giveHeads_89 : decode cX4_giveHeads 89 = .ok (.lload 4, 2) := by decide +kernel
theorem dX4_giveHeads_91 : decode cX4_giveHeads 91 = .ok (.lload 7, 2) := by decide +kernel
theorem dX4_giveHeads_93 : decode cX4_giveHeads 93 = .ok (.ladd, 1) := by decide +kernel
theorem dX4_giveHeads_94 : decode cX4_giveHeads 94 = .ok (.invokestatic 23, 3) := by decide +kernel
theorem dX4_giveHeads_97 : decode cX4_giveHeads 97 = .ok (.iinc 6 1, 3) := by decide +kernel
theorem dX4_giveHeads_100 : decode cX4_giveHeads 100 = .ok (.goto (-76), 3) := by decide +kernel
theorem dX4_giveHeads_103 : decode cX4_giveHeads 103 = .ok (.return_, 1) := by decide +kernel
theorem dX4_note_0 : decode cX4_note 0 = .ok (.aload_n 0, 1) := by decide +kernel
theorem dX4_note_1 : decode cX4_note 1 = .ok (.getfield 19, 3) := by decide +kernel
theorem dX4_note_4 : decode cX4_note 4 = .ok (.ifCond .lt 35, 3) := by decide +kernel
theorem dX4_note_7 : decode cX4_note 7 = .ok (.aload_n 0, 1) := by decide +kernel
theorem dX4_note_8 : decode cX4_note 8 = .ok (.getfield 19, 3) := by decide +kernel
theorem dX4_note_11 : decode cX4_note 11 = .ok (.aload_n 0, 1) := by decide +kernel
theorem dX4_note_12 : decode cX4_note 12 = .ok (.getfield 9, 3) := by decide +kernel
theorem dX4_note_15 : decode cX4_note 15 = .ok (.arraylength, 1) := by decide +kernel
theorem dX4_note_16 : decode cX4_note 16 = .ok (.if_icmp .ge 23, 3) := by decide +kernel
theorem dX4_note_19 : decode cX4_note 19 = .ok (.aload_n 0, 1) := by decide +kernel
theorem dX4_note_20 : decode cX4_note 20 = .ok (.getfield 9, 3) := by decide +kernel
theorem dX4_note_23 : decode cX4_note 23 = .ok (.aload_n 0, 1) := by decide +kernel
theorem dX4_note_24 : decode cX4_note 24 = .ok (.getfield 19, 3) := by decide +kernel
theorem dX4_note_27 : decode cX4_note 27 = .ok (.lload_n 1, 1) := by decide +kernel
theorem dX4_note_28 : decode cX4_note 28 = .ok (.lastore, 1) := by decide +kernel
theorem dX4_note_29 : decode cX4_note 29 = .ok (.aload_n 0, 1) := by decide +kernel
theorem dX4_note_30 : decode cX4_note 30 = .ok (.dup, 1) := by decide +kernel
theorem dX4_note_31 : decode cX4_note 31 = .ok (.getfield 19, 3) := by decide +kernel
theorem dX4_note_34 : decode cX4_note 34 = .ok (.iconst 1, 1) := by decide +kernel
theorem dX4_note_35 : decode cX4_note 35 = .ok (.iadd, 1) := by decide +kernel
theorem dX4_note_36 : decode cX4_note 36 = .ok (.putfield 19, 3) := by decide +kernel
theorem dX4_note_39 : decode cX4_note 39 = .ok (.return_, 1) := by decide +kernel
theorem dX4_closesCircle_0 : decode cX4_closesCircle 0 = .ok (.iload_n 1, 1) := by decide +kernel
theorem dX4_closesCircle_1 : decode cX4_closesCircle 1 = .ok (.istore_n 3, 1) := by decide +kernel
theorem dX4_closesCircle_2 : decode cX4_closesCircle 2 = .ok (.iconst 0, 1) := by decide +kernel
theorem dX4_closesCircle_3 : decode cX4_closesCircle 3 = .ok (.istore 4, 2) := by decide +kernel
theorem dX4_closesCircle_5 : decode cX4_closesCircle 5 = .ok (.iload 4, 2) := by decide +kernel
theorem dX4_closesCircle_7 : decode cX4_closesCircle 7 = .ok (.bipush 7, 2) := by decide +kernel
theorem dX4_closesCircle_9 : decode cX4_closesCircle 9 = .ok (.if_icmp .ge 38, 3) := by decide +kernel
theorem dX4_closesCircle_12 : decode cX4_closesCircle 12 = .ok (.iload_n 3, 1) := by decide +kernel
theorem dX4_closesCircle_13 : decode cX4_closesCircle 13 = .ok (.ifCond .le 34, 3) := by decide +kernel
theorem dX4_closesCircle_16 : decode cX4_closesCircle 16 = .ok (.iload_n 3, 1) := by decide +kernel
theorem dX4_closesCircle_17 : decode cX4_closesCircle 17 = .ok (.iload_n 2, 1) := by decide +kernel
theorem dX4_closesCircle_18 : decode cX4_closesCircle 18 = .ok (.if_icmp .ge 29, 3) := by decide +kernel
theorem dX4_closesCircle_21 : decode cX4_closesCircle 21 = .ok (.iload_n 3, 1) := by decide +kernel
theorem dX4_closesCircle_22 : decode cX4_closesCircle 22 = .ok (.aload_n 0, 1) := by decide +kernel
theorem dX4_closesCircle_23 : decode cX4_closesCircle 23 = .ok (.getfield 15, 3) := by decide +kernel
theorem dX4_closesCircle_26 : decode cX4_closesCircle 26 = .ok (.arraylength, 1) := by decide +kernel
theorem dX4_closesCircle_27 : decode cX4_closesCircle 27 = .ok (.if_icmp .ge 12, 3) := by decide +kernel
theorem dX4_closesCircle_30 : decode cX4_closesCircle 30 = .ok (.aload_n 0, 1) := by decide +kernel
theorem dX4_closesCircle_31 : decode cX4_closesCircle 31 = .ok (.getfield 15, 3) := by decide +kernel
theorem dX4_closesCircle_34 : decode cX4_closesCircle 34 = .ok (.iload_n 3, 1) := by decide +kernel
theorem dX4_closesCircle_35 : decode cX4_closesCircle 35 = .ok (.iaload, 1) := by decide +kernel
theorem dX4_closesCircle_36 : decode cX4_closesCircle 36 = .ok (.goto 4, 3) := by decide +kernel
theorem dX4_closesCircle_39 : decode cX4_closesCircle 39 = .ok (.iconst 0, 1) := by decide +kernel
theorem dX4_closesCircle_40 : decode cX4_closesCircle 40 = .ok (.istore_n 3, 1) := by decide +kernel
theorem dX4_closesCircle_41 : decode cX4_closesCircle 41 = .ok (.iinc 4 1, 3) := by decide +kernel
theorem dX4_closesCircle_44 : decode cX4_closesCircle 44 = .ok (.goto (-39), 3) := by decide +kernel
theorem dX4_closesCircle_47 : decode cX4_closesCircle 47 = .ok (.iload_n 3, 1) := by decide +kernel
theorem dX4_closesCircle_48 : decode cX4_closesCircle 48 = .ok (.iload_n 2, 1) := by decide +kernel
theorem dX4_closesCircle_49 : decode cX4_closesCircle 49 = .ok (.if_icmp .ne 7, 3) := by decide +kernel
theorem dX4_closesCircle_52 : decode cX4_closesCircle 52 = .ok (.iconst 1, 1) := by decide +kernel
theorem dX4_closesCircle_53 : decode cX4_closesCircle 53 = .ok (.goto 4, 3) := by decide +kernel
theorem dX4_closesCircle_56 : decode cX4_closesCircle 56 = .ok (.iconst 0, 1) := by decide +kernel
theorem dX4_closesCircle_57 : decode cX4_closesCircle 57 = .ok (.ireturn, 1) := by decide +kernel
set_option maxRecDepth 20000 in
theorem ggX4_crossesEarlier_X6_doCross : GoodIn wsX4_crossesEarlier wsX6_doCross := goodIn_r _ [4, 5, 6, 7, 8, 9, 10, 11] (by decide +kernel) (by decide +kernel)
set_option maxRecDepth 20000 in
theorem gX4_crossesEarlier_X6_doCross_n73 : GoodIn wsX4_crossesEarlier (wsX6_doCross) := ggX4_crossesEarlier_X6_doCross
theorem dX4_crossesEarlier_0 : decode cX4_crossesEarlier 0 = .ok (.iconst 1, 1) := by decide +kernel
theorem dX4_crossesEarlier_1 : decode cX4_crossesEarlier 1 = .ok (.istore_n 3, 1) := by decide +kernel
theorem dX4_crossesEarlier_2 : decode cX4_crossesEarlier 2 = .ok (.iload_n 3, 1) := by decide +kernel
theorem dX4_crossesEarlier_3 : decode cX4_crossesEarlier 3 = .ok (.iload_n 2, 1) := by decide +kernel
theorem dX4_crossesEarlier_4 : decode cX4_crossesEarlier 4 = .ok (.if_icmp .ge 35, 3) := by decide +kernel
theorem dX4_crossesEarlier_7 : decode cX4_crossesEarlier 7 = .ok (.iload_n 3, 1) := by decide +kernel
theorem dX4_crossesEarlier_8 : decode cX4_crossesEarlier 8 = .ok (.aload_n 0, 1) := by decide +kernel
theorem dX4_crossesEarlier_9 : decode cX4_crossesEarlier 9 = .ok (.getfield 15, 3) := by decide +kernel
theorem dX4_crossesEarlier_12 : decode cX4_crossesEarlier 12 = .ok (.arraylength, 1) := by decide +kernel
theorem dX4_crossesEarlier_13 : decode cX4_crossesEarlier 13 = .ok (.if_icmp .ge 26, 3) := by decide +kernel
theorem dX4_crossesEarlier_16 : decode cX4_crossesEarlier 16 = .ok (.iload_n 1, 1) := by decide +kernel
theorem dX4_crossesEarlier_17 : decode cX4_crossesEarlier 17 = .ok (.iload_n 2, 1) := by decide +kernel
theorem dX4_crossesEarlier_18 : decode cX4_crossesEarlier 18 = .ok (.aload_n 0, 1) := by decide +kernel
theorem dX4_crossesEarlier_19 : decode cX4_crossesEarlier 19 = .ok (.getfield 15, 3) := by decide +kernel
theorem dX4_crossesEarlier_22 : decode cX4_crossesEarlier 22 = .ok (.iload_n 3, 1) := by decide +kernel
theorem dX4_crossesEarlier_23 : decode cX4_crossesEarlier 23 = .ok (.iaload, 1) := by decide +kernel
theorem dX4_crossesEarlier_24 : decode cX4_crossesEarlier 24 = .ok (.iload_n 3, 1) := by decide +kernel
theorem dX4_crossesEarlier_25 : decode cX4_crossesEarlier 25 = .ok (.invokestatic 73, 3) := by decide +kernel
theorem dX4_crossesEarlier_28 : decode cX4_crossesEarlier 28 = .ok (.ifCond .eq 5, 3) := by decide +kernel
theorem dX4_crossesEarlier_31 : decode cX4_crossesEarlier 31 = .ok (.iconst 1, 1) := by decide +kernel
theorem dX4_crossesEarlier_32 : decode cX4_crossesEarlier 32 = .ok (.ireturn, 1) := by decide +kernel
theorem dX4_crossesEarlier_33 : decode cX4_crossesEarlier 33 = .ok (.iinc 3 1, 3) := by decide +kernel
theorem dX4_crossesEarlier_36 : decode cX4_crossesEarlier 36 = .ok (.goto (-34), 3) := by decide +kernel
theorem dX4_crossesEarlier_39 : decode cX4_crossesEarlier 39 = .ok (.iconst 0, 1) := by decide +kernel
theorem dX4_crossesEarlier_40 : decode cX4_crossesEarlier 40 = .ok (.ireturn, 1) := by decide +kernel
theorem dX5_init_0 : decode cX5_init 0 = .ok (.aload_n 0, 1) := by decide +kernel
theorem dX5_init_1 : decode cX5_init 1 = .ok (.invokespecial 3, 3) := by decide +kernel
theorem dX5_init_4 : decode cX5_init 4 = .ok (.aload_n 0, 1) := by decide +kernel
theorem dX5_init_5 : decode cX5_init 5 = .ok (.bipush 28, 2) := by decide +kernel
theorem dX5_init_7 : decode cX5_init 7 = .ok (.newarray .int, 2) := by decide +kernel
theorem dX5_init_9 : decode cX5_init 9 = .ok (.putfield 9, 3) := by decide +kernel
theorem dX5_init_12 : decode cX5_init 12 = .ok (.aload_n 0, 1) := by decide +kernel
theorem dX5_init_13 : decode cX5_init 13 = .ok (.bipush 28, 2) := by decide +kernel
theorem dX5_init_15 : decode cX5_init 15 = .ok (.newarray .long, 2) := by decide +kernel
theorem dX5_init_17 : decode cX5_init 17 = .ok (.putfield 15, 3) := by decide +kernel
theorem dX5_init_20 : decode cX5_init 20 = .ok (.aload_n 0, 1) := by decide +kernel
theorem dX5_init_21 : decode cX5_init 21 = .ok (.iconst 0, 1) := by decide +kernel
theorem dX5_init_22 : decode cX5_init 22 = .ok (.putfield 19, 3) := by decide +kernel
theorem dX5_init_25 : decode cX5_init 25 = .ok (.aload_n 0, 1) := by decide +kernel
theorem dX5_init_26 : decode cX5_init 26 = .ok (.bipush 20, 2) := by decide +kernel
theorem dX5_init_28 : decode cX5_init 28 = .ok (.bipush 28, 2) := by decide +kernel
theorem dX5_init_30 : decode cX5_init 30 = .ok (.multianewarray 23 2, 4) := by decide +kernel
theorem dX5_init_34 : decode cX5_init 34 = .ok (.putfield 25, 3) := by decide +kernel
theorem dX5_init_37 : decode cX5_init 37 = .ok (.aload_n 0, 1) := by decide +kernel
theorem dX5_init_38 : decode cX5_init 38 = .ok (.bipush 20, 2) := by decide +kernel
theorem dX5_init_40 : decode cX5_init 40 = .ok (.bipush 28, 2) := by decide +kernel
theorem dX5_init_42 : decode cX5_init 42 = .ok (.multianewarray 28 2, 4) := by decide +kernel
theorem dX5_init_46 : decode cX5_init 46 = .ok (.putfield 30, 3) := by decide +kernel
theorem dX5_init_49 : decode cX5_init 49 = .ok (.aload_n 0, 1) := by decide +kernel
theorem dX5_init_50 : decode cX5_init 50 = .ok (.bipush 20, 2) := by decide +kernel
theorem dX5_init_52 : decode cX5_init 52 = .ok (.newarray .int, 2) := by decide +kernel
theorem dX5_init_54 : decode cX5_init 54 = .ok (.putfield 33, 3) := by decide +kernel
theorem dX5_init_57 : decode cX5_init 57 = .ok (.aload_n 0, 1) := by decide +kernel
theorem dX5_init_58 : decode cX5_init 58 = .ok (.iconst 0, 1) := by decide +kernel
theorem dX5_init_59 : decode cX5_init 59 = .ok (.putfield 36, 3) := by decide +kernel
theorem dX5_init_62 : decode cX5_init 62 = .ok (.aload_n 0, 1) := by decide +kernel
theorem dX5_init_63 : decode cX5_init 63 = .ok (.iconst 0, 1) := by decide +kernel
theorem dX5_init_64 : decode cX5_init 64 = .ok (.putfield 39, 3) := by decide +kernel
theorem dX5_init_67 : decode cX5_init 67 = .ok (.return_, 1) := by decide +kernel
set_option maxRecDepth 20000 in
theorem ggX5_get_X5_isFeature : GoodIn wsX5_get wsX5_isFeature := goodIn_r _ [5] (by decide +kernel) (by decide +kernel)
set_option maxRecDepth 20000 in
theorem gX5_get_X5_isFeature : GoodIn wsX5_get (va_wsS RX5 42 yX5_isFeature wsX5_isFeature) := goodIn_app (goodIn_of _ (by decide +kernel)) ggX5_get_X5_isFeature
theorem dX5_get_0 : decode cX5_get 0 = .ok (.iload_n 1, 1) := by decide +kernel
theorem dX5_get_1 : decode cX5_get 1 = .ok (.invokestatic 42, 3) := by decide +kernel
theorem dX5_get_4 : decode cX5_get 4 = .ok (.ifCond .eq 12, 3) := by decide +kernel
theorem dX5_get_7 : decode cX5_get 7 = .ok (.aload_n 0, 1) := by decide +kernel
theorem dX5_get_8 : decode cX5_get 8 = .ok (.getfield 9, 3) := by decide +kernel
theorem dX5_get_11 : decode cX5_get 11 = .ok (.iload_n 1, 1) := by decide +kernel
theorem dX5_get_12 : decode cX5_get 12 = .ok (.iaload, 1) := by decide +kernel
theorem dX5_get_13 : decode cX5_get 13 = .ok (.goto 4, 3) := by decide +kernel
theorem dX5_get_16 : decode cX5_get 16 = .ok (.iconst 0, 1) := by decide +kernel
theorem dX5_get_17 : decode cX5_get 17 = .ok (.ireturn, 1) := by decide +kernel
set_option maxRecDepth 20000 in
theorem ggX5_put_X5_isFeature : GoodIn wsX5_put wsX5_isFeature := goodIn_r _ [5] (by decide +kernel) (by decide +kernel)
set_option maxRecDepth 20000 in
theorem gX5_put_X5_isFeature : GoodIn wsX5_put (va_wsS RX5 42 yX5_isFeature wsX5_isFeature) := goodIn_app (goodIn_of _ (by decide +kernel)) ggX5_put_X5_isFeature
theorem dX5_put_0 : decode cX5_put 0 = .ok (.iload_n 1, 1) := by decide +kernel
theorem dX5_put_1 : decode cX5_put 1 = .ok (.invokestatic 42, 3) := by decide +kernel
theorem dX5_put_4 : decode cX5_put 4 = .ok (.ifCond .eq 10, 3) := by decide +kernel
theorem dX5_put_7 : decode cX5_put 7 = .ok (.aload_n 0, 1) := by decide +kernel
theorem dX5_put_8 : decode cX5_put 8 = .ok (.getfield 9, 3) := by decide +kernel
theorem dX5_put_11 : decode cX5_put 11 = .ok (.iload_n 1, 1) := by decide +kernel
theorem dX5_put_12 : decode cX5_put 12 = .ok (.iload_n 2, 1) := by decide +kernel
theorem dX5_put_13 : decode cX5_put 13 = .ok (.iastore, 1) := by decide +kernel
theorem dX5_put_14 : decode cX5_put 14 = .ok (.return_, 1) := by decide +kernel
set_option maxRecDepth 20000 in
theorem ggX5_ofArc_X2_byKinds : GoodIn wsX5_ofArc wsX2_byKinds := goodIn_r _ [5, 6, 7, 8, 4, 9, 10, 11, 12, 13, 32, 33, 34, 35] (by decide +kernel) (by decide +kernel)
set_option maxRecDepth 20000 in
theorem gX5_ofArc_X2_byKinds : GoodIn wsX5_ofArc (wsV RX5 46 RX2 yX2_byKinds wsX2_byKinds) := goodIn_app (goodIn_of _ (by decide +kernel)) ggX5_ofArc_X2_byKinds
set_option maxRecDepth 20000 in
theorem ggX5_ofArc_X5_get : GoodIn wsX5_ofArc wsX5_get := goodIn_r _ [18, 19, 20, 21, 17, 22, 36, 37, 38, 39, 40, 41, 42, 43] (by decide +kernel) (by decide +kernel)
set_option maxRecDepth 20000 in
theorem gX5_ofArc_X5_get : GoodIn wsX5_ofArc (wsV RX5 52 RX5 yX5_get wsX5_get) := goodIn_app (goodIn_of _ (by decide +kernel)) ggX5_ofArc_X5_get
set_option maxRecDepth 20000 in
theorem ggX5_ofArc_X6_byDistance : GoodIn wsX5_ofArc wsX6_byDistance := goodIn_r _ [24, 25, 26, 27, 28, 29, 30, 31] (by decide +kernel) (by decide +kernel)
set_option maxRecDepth 20000 in
theorem gX5_ofArc_X6_byDistance_n56 : GoodIn wsX5_ofArc (wsX6_byDistance) := ggX5_ofArc_X6_byDistance
theorem dX5_ofArc_0 : decode cX5_ofArc 0 = .ok (.aload_n 0, 1) := by decide +kernel
theorem dX5_ofArc_1 : decode cX5_ofArc 1 = .ok (.aload_n 1, 1) := by decide +kernel
theorem dX5_ofArc_2 : decode cX5_ofArc 2 = .ok (.iload_n 2, 1) := by decide +kernel
theorem dX5_ofArc_3 : decode cX5_ofArc 3 = .ok (.iload_n 3, 1) := by decide +kernel
theorem dX5_ofArc_4 : decode cX5_ofArc 4 = .ok (.invokevirtual 46, 3) := by decide +kernel
theorem dX5_ofArc_7 : decode cX5_ofArc 7 = .ok (.invokevirtual 52, 3) := by decide +kernel
theorem dX5_ofArc_10 : decode cX5_ofArc 10 = .ok (.aload_n 0, 1) := by decide +kernel
theorem dX5_ofArc_11 : decode cX5_ofArc 11 = .ok (.iload_n 2, 1) := by decide +kernel
theorem dX5_ofArc_12 : decode cX5_ofArc 12 = .ok (.iload_n 3, 1) := by decide +kernel
theorem dX5_ofArc_13 : decode cX5_ofArc 13 = .ok (.invokestatic 56, 3) := by decide +kernel
theorem dX5_ofArc_16 : decode cX5_ofArc 16 = .ok (.invokevirtual 52, 3) := by decide +kernel
theorem dX5_ofArc_19 : decode cX5_ofArc 19 = .ok (.iadd, 1) := by decide +kernel
theorem dX5_ofArc_20 : decode cX5_ofArc 20 = .ok (.ireturn, 1) := by decide +kernel
set_option maxRecDepth 20000 in
theorem ggX5_addToArc_X2_byKinds : GoodIn wsX5_addToArc wsX2_byKinds := goodIn_r _ [5, 6, 7, 8, 4, 9, 10, 11, 12, 13, 36, 37, 38, 39] (by decide +kernel) (by decide +kernel)
set_option maxRecDepth 20000 in
theorem gX5_addToArc_X2_byKinds : GoodIn wsX5_addToArc (wsV RX5 46 RX2 yX2_byKinds wsX2_byKinds) := goodIn_app (goodIn_of _ (by decide +kernel)) ggX5_addToArc_X2_byKinds
set_option maxRecDepth 20000 in
theorem ggX5_addToArc_X6_byDistance : GoodIn wsX5_addToArc wsX6_byDistance := goodIn_r _ [15, 16, 17, 18, 19, 20, 21, 22] (by decide +kernel) (by decide +kernel)
set_option maxRecDepth 20000 in
theorem gX5_addToArc_X6_byDistance_n56 : GoodIn wsX5_addToArc (wsX6_byDistance) := ggX5_addToArc_X6_byDistance
set_option maxRecDepth 20000 in
theorem ggX5_addToArc_X5_get : GoodIn wsX5_addToArc wsX5_get := goodIn_r _ [27, 28, 29, 30, 26, 31, 40, 41, 42, 43, 44, 45, 46, 47] (by decide +kernel) (by decide +kernel)
set_option maxRecDepth 20000 in
theorem gX5_addToArc_X5_get : GoodIn wsX5_addToArc (wsV RX5 52 RX5 yX5_get wsX5_get) := goodIn_app (goodIn_of _ (by decide +kernel)) ggX5_addToArc_X5_get
set_option maxRecDepth 20000 in
theorem ggX5_addToArc_X5_put : GoodIn wsX5_addToArc wsX5_put := goodIn_r _ [35, 28, 29, 30, 26, 31, 40, 41, 42, 43, 44, 45, 46, 47] (by decide +kernel) (by decide +kernel)
set_option maxRecDepth 20000 in
theorem gX5_addToArc_X5_put : GoodIn wsX5_addToArc (wsV RX5 59 RX5 yX5_put wsX5_put) := goodIn_app (goodIn_of _ (by decide +kernel)) ggX5_addToArc_X5_put
theorem dX5_addToArc_0 : decode cX5_addToArc 0 = .ok (.aload_n 1, 1) := by decide +kernel
theorem dX5_addToArc_1 : decode cX5_addToArc 1 = .ok (.iload_n 2, 1) := by decide +kernel
theorem dX5_addToArc_2 : decode cX5_addToArc 2 = .ok (.iload_n 3, 1) := by decide +kernel
theorem dX5_addToArc_3 : decode cX5_addToArc 3 = .ok (.invokevirtual 46, 3) := by decide +kernel
theorem dX5_addToArc_6 : decode cX5_addToArc 6 = .ok (.istore 5, 2) := by decide +kernel
theorem dX5_addToArc_8 : decode cX5_addToArc 8 = .ok (.iload_n 2, 1) := by decide +kernel
theorem dX5_addToArc_9 : decode cX5_addToArc 9 = .ok (.iload_n 3, 1) := by decide +kernel
theorem dX5_addToArc_10 : decode cX5_addToArc 10 = .ok (.invokestatic 56, 3) := by decide +kernel
theorem dX5_addToArc_13 : decode cX5_addToArc 13 = .ok (.istore 6, 2) := by decide +kernel
theorem dX5_addToArc_15 : decode cX5_addToArc 15 = .ok (.aload_n 0, 1) := by decide +kernel
theorem dX5_addToArc_16 : decode cX5_addToArc 16 = .ok (.iload 5, 2) := by decide +kernel
theorem dX5_addToArc_18 : decode cX5_addToArc 18 = .ok (.aload_n 0, 1) := by decide +kernel
theorem dX5_addToArc_19 : decode cX5_addToArc 19 = .ok (.iload 5, 2) := by decide +kernel
theorem dX5_addToArc_21 : decode cX5_addToArc 21 = .ok (.invokevirtual 52, 3) := by decide +kernel
theorem dX5_addToArc_24 : decode cX5_addToArc 24 = .ok (.iload 4, 2) := by decide +kernel
theorem dX5_addToArc_26 : decode cX5_addToArc 26 = .ok (.iadd, 1) := by decide +kernel
theorem dX5_addToArc_27 : decode cX5_addToArc 27 = .ok (.invokevirtual 59, 3) := by decide +kernel
theorem dX5_addToArc_30 : decode cX5_addToArc 30 = .ok (.aload_n 0, 1) := by decide +kernel
theorem dX5_addToArc_31 : decode cX5_addToArc 31 = .ok (.iload 6, 2) := by decide +kernel
theorem dX5_addToArc_33 : decode cX5_addToArc 33 = .ok (.aload_n 0, 1) := by decide +kernel
theorem dX5_addToArc_34 : decode cX5_addToArc 34 = .ok (.iload 6, 2) := by decide +kernel
theorem dX5_addToArc_36 : decode cX5_addToArc 36 = .ok (.invokevirtual 52, 3) := by decide +kernel
theorem dX5_addToArc_39 : decode cX5_addToArc 39 = .ok (.iload 4, 2) := by decide +kernel
theorem dX5_addToArc_41 : decode cX5_addToArc 41 = .ok (.iadd, 1) := by decide +kernel
theorem dX5_addToArc_42 : decode cX5_addToArc 42 = .ok (.invokevirtual 59, 3) := by decide +kernel
theorem dX5_addToArc_45 : decode cX5_addToArc 45 = .ok (.return_, 1) := by decide +kernel
theorem dX5_endStep_0 : decode cX5_endStep 0 = .ok (.iconst 0, 1) := by decide +kernel
theorem dX5_endStep_1 : decode cX5_endStep 1 = .ok (.istore_n 1, 1) := by decide +kernel
theorem dX5_endStep_2 : decode cX5_endStep 2 = .ok (.iload_n 1, 1) := by decide +kernel
theorem dX5_endStep_3 : decode cX5_endStep 3 = .ok (.bipush 28, 2) := by decide +kernel
theorem dX5_endStep_5 : decode cX5_endStep 5 = .ok (.if_icmp .ge 25, 3) := by decide +kernel
theorem dX5_endStep_8 : decode cX5_endStep 8 = .ok (.aload_n 0, 1) := by decide +kernel
theorem dX5_endStep_9 : decode cX5_endStep 9 = .ok (.getfield 15, 3) := by decide +kernel
theorem dX5_endStep_12 : decode cX5_endStep 12 = .ok (.iload_n 1, 1) := by decide +kernel
theorem dX5_endStep_13 : decode cX5_endStep 13 = .ok (.dup2, 1) := by decide +kernel
theorem dX5_endStep_14 : decode cX5_endStep 14 = .ok (.laload, 1) := by decide +kernel
theorem dX5_endStep_15 : decode cX5_endStep 15 = .ok (.aload_n 0, 1) := by decide +kernel
theorem dX5_endStep_16 : decode cX5_endStep 16 = .ok (.getfield 9, 3) := by decide +kernel
theorem dX5_endStep_19 : decode cX5_endStep 19 = .ok (.iload_n 1, 1) := by decide +kernel
theorem dX5_endStep_20 : decode cX5_endStep 20 = .ok (.iaload, 1) := by decide +kernel
theorem dX5_endStep_21 : decode cX5_endStep 21 = .ok (.i2l, 1) := by decide +kernel
theorem dX5_endStep_22 : decode cX5_endStep 22 = .ok (.ladd, 1) := by decide +kernel
theorem dX5_endStep_23 : decode cX5_endStep 23 = .ok (.lastore, 1) := by decide +kernel
theorem dX5_endStep_24 : decode cX5_endStep 24 = .ok (.iinc 1 1, 3) := by decide +kernel
theorem dX5_endStep_27 : decode cX5_endStep 27 = .ok (.goto (-25), 3) := by decide +kernel
theorem dX5_endStep_30 : decode cX5_endStep 30 = .ok (.aload_n 0, 1) := by decide +kernel
theorem dX5_endStep_31 : decode cX5_endStep 31 = .ok (.dup, 1) := by decide +kernel
theorem dX5_endStep_32 : decode cX5_endStep 32 = .ok (.getfield 19, 3) := by decide +kernel
theorem dX5_endStep_35 : decode cX5_endStep 35 = .ok (.iconst 1, 1) := by decide +kernel
theorem dX5_endStep_36 : decode cX5_endStep 36 = .ok (.iadd, 1) := by decide +kernel
theorem dX5_endStep_37 : decode cX5_endStep 37 = .ok (.putfield 19, 3) := by decide +kernel
theorem dX5_endStep_40 : decode cX5_endStep 40 = .ok (.return_, 1) := by decide +kernel
theorem dX5_stepCount_0 : decode cX5_stepCount 0 = .ok (.aload_n 0, 1) := by decide +kernel
theorem dX5_stepCount_1 : decode cX5_stepCount 1 = .ok (.getfield 19, 3) := by decide +kernel
theorem dX5_stepCount_4 : decode cX5_stepCount 4 = .ok (.ireturn, 1) := by decide +kernel
set_option maxRecDepth 20000 in
theorem ggX5_averageOf_X5_isFeature : GoodIn wsX5_averageOf wsX5_isFeature := goodIn_r _ [6] (by decide +kernel) (by decide +kernel)
set_option maxRecDepth 20000 in
theorem gX5_averageOf_X5_isFeature : GoodIn wsX5_averageOf (va_wsS RX5 42 yX5_isFeature wsX5_isFeature) := goodIn_app (goodIn_of _ (by decide +kernel)) ggX5_averageOf_X5_isFeature
theorem dX5_averageOf_0 : decode cX5_averageOf 0 = .ok (.aload_n 0, 1) := by decide +kernel
theorem dX5_averageOf_1 : decode cX5_averageOf 1 = .ok (.getfield 19, 3) := by decide +kernel
theorem dX5_averageOf_4 : decode cX5_averageOf 4 = .ok (.ifCond .eq 10, 3) := by decide +kernel
theorem dX5_averageOf_7 : decode cX5_averageOf 7 = .ok (.iload_n 1, 1) := by decide +kernel
theorem dX5_averageOf_8 : decode cX5_averageOf 8 = .ok (.invokestatic 42, 3) := by decide +kernel
theorem dX5_averageOf_11 : decode cX5_averageOf 11 = .ok (.ifCond .ne 5, 3) := by decide +kernel
theorem dX5_averageOf_14 : decode cX5_averageOf 14 = .ok (.dconst 0, 1) := by decide +kernel
theorem dX5_averageOf_15 : decode cX5_averageOf 15 = .ok (.dreturn, 1) := by decide +kernel
theorem dX5_averageOf_16 : decode cX5_averageOf 16 = .ok (.aload_n 0, 1) := by decide +kernel
theorem dX5_averageOf_17 : decode cX5_averageOf 17 = .ok (.getfield 15, 3) := by decide +kernel
theorem dX5_averageOf_20 : decode cX5_averageOf 20 = .ok (.iload_n 1, 1) := by decide +kernel
theorem dX5_averageOf_21 : decode cX5_averageOf 21 = .ok (.laload, 1) := by decide +kernel
theorem dX5_averageOf_22 : decode cX5_averageOf 22 = .ok (.l2d, 1) := by decide +kernel
theorem dX5_averageOf_23 : decode cX5_averageOf 23 = .ok (.aload_n 0, 1) := by decide +kernel
theorem dX5_averageOf_24 : decode cX5_averageOf 24 = .ok (.getfield 19, 3) := by decide +kernel
theorem dX5_averageOf_27 : decode cX5_averageOf 27 = .ok (.i2d, 1) := by decide +kernel
theorem dX5_averageOf_28 : decode cX5_averageOf 28 = .ok (.ddiv, 1) := by decide +kernel
theorem dX5_averageOf_29 : decode cX5_averageOf 29 = .ok (.dreturn, 1) := by decide +kernel
theorem dX5_keptCount_0 : decode cX5_keptCount 0 = .ok (.aload_n 0, 1) := by decide +kernel
theorem dX5_keptCount_1 : decode cX5_keptCount 1 = .ok (.getfield 36, 3) := by decide +kernel
theorem dX5_keptCount_4 : decode cX5_keptCount 4 = .ok (.ireturn, 1) := by decide +kernel
set_option maxRecDepth 20000 in
theorem ggX5_keep_X5_isRow : GoodIn wsX5_keep wsX5_isRow := goodIn_r _ [20] (by decide +kernel) (by decide +kernel)
set_option maxRecDepth 20000 in
theorem gX5_keep_X5_isRow : GoodIn wsX5_keep (va_wsS RX5 63 yX5_isRow wsX5_isRow) := goodIn_app (goodIn_of _ (by decide +kernel)) ggX5_keep_X5_isRow
theorem dX5_keep_0 : decode cX5_keep 0 = .ok (.aload_n 0, 1) := by decide +kernel
theorem dX5_keep_1 : decode cX5_keep 1 = .ok (.getfield 39, 3) := by decide +kernel
theorem dX5_keep_4 : decode cX5_keep 4 = .ok (.invokestatic 63, 3) := by decide +kernel
theorem dX5_keep_7 : decode cX5_keep 7 = .ok (.ifCond .ne 4, 3) := by decide +kernel
theorem dX5_keep_10 : decode cX5_keep 10 = .ok (.return_, 1) := by decide +kernel
theorem dX5_keep_11 : decode cX5_keep 11 = .ok (.aload_n 0, 1) := by decide +kernel
theorem dX5_keep_12 : decode cX5_keep 12 = .ok (.getfield 9, 3) := by decide +kernel
theorem dX5_keep_15 : decode cX5_keep 15 = .ok (.iconst 0, 1) := by decide +kernel
theorem dX5_keep_16 : decode cX5_keep 16 = .ok (.aload_n 0, 1) := by decide +kernel
theorem dX5_keep_17 : decode cX5_keep 17 = .ok (.getfield 25, 3) := by decide +kernel
theorem dX5_keep_20 : decode cX5_keep 20 = .ok (.aload_n 0, 1) := by decide +kernel
theorem dX5_keep_21 : decode cX5_keep 21 = .ok (.getfield 39, 3) := by decide +kernel
theorem dX5_keep_24 : decode cX5_keep 24 = .ok (.aaload, 1) := by decide +kernel
theorem dX5_keep_25 : decode cX5_keep 25 = .ok (.iconst 0, 1) := by decide +kernel
theorem dX5_keep_26 : decode cX5_keep 26 = .ok (.bipush 28, 2) := by decide +kernel
theorem dX5_keep_28 : decode cX5_keep 28 = .ok (.invokestatic 66, 3) := by decide +kernel
theorem dX5_keep_31 : decode cX5_keep 31 = .ok (.aload_n 0, 1) := by decide +kernel
theorem dX5_keep_32 : decode cX5_keep 32 = .ok (.getfield 15, 3) := by decide +kernel
theorem dX5_keep_35 : decode cX5_keep 35 = .ok (.iconst 0, 1) := by decide +kernel
theorem dX5_keep_36 : decode cX5_keep 36 = .ok (.aload_n 0, 1) := by decide +kernel
theorem dX5_keep_37 : decode cX5_keep 37 = .ok (.getfield 30, 3) := by decide +kernel
theorem dX5_keep_40 : decode cX5_keep 40 = .ok (.aload_n 0, 1) := by decide +kernel
theorem dX5_keep_41 : decode cX5_keep 41 = .ok (.getfield 39, 3) := by decide +kernel
theorem dX5_keep_44 : decode cX5_keep 44 = .ok (.aaload, 1) := by decide +kernel
theorem dX5_keep_45 : decode cX5_keep 45 = .ok (.iconst 0, 1) := by decide +kernel
theorem dX5_keep_46 : decode cX5_keep 46 = .ok (.bipush 28, 2) := by decide +kernel
theorem dX5_keep_48 : decode cX5_keep 48 = .ok (.invokestatic 66, 3) := by decide +kernel
theorem dX5_keep_51 : decode cX5_keep 51 = .ok (.aload_n 0, 1) := by decide +kernel
theorem dX5_keep_52 : decode cX5_keep 52 = .ok (.getfield 33, 3) := by decide +kernel
theorem dX5_keep_55 : decode cX5_keep 55 = .ok (.aload_n 0, 1) := by decide +kernel
theorem dX5_keep_56 : decode cX5_keep 56 = .ok (.getfield 39, 3) := by decide +kernel
theorem dX5_keep_59 : decode cX5_keep 59 = .ok (.aload_n 0, 1) := by decide +kernel
theorem dX5_keep_60 : decode cX5_keep 60 = .ok (.getfield 19, 3) := by decide +kernel
theorem dX5_keep_63 : decode cX5_keep 63 = .ok (.iastore, 1) := by decide +kernel
theorem dX5_keep_64 : decode cX5_keep 64 = .ok (.aload_n 0, 1) := by decide +kernel
theorem dX5_keep_65 : decode cX5_keep 65 = .ok (.aload_n 0, 1) := by decide +kernel
theorem dX5_keep_66 : decode cX5_keep 66 = .ok (.getfield 39, 3) := by decide +kernel
theorem dX5_keep_69 : decode cX5_keep 69 = .ok (.iconst 1, 1) := by decide +kernel
theorem dX5_keep_70 : decode cX5_keep 70 = .ok (.iadd, 1) := by decide +kernel
theorem dX5_keep_71 : decode cX5_keep 71 = .ok (.bipush 20, 2) := by decide +kernel
theorem dX5_keep_73 : decode cX5_keep 73 = .ok (.if_icmp .ge 12, 3) := by decide +kernel
theorem dX5_keep_76 : decode cX5_keep 76 = .ok (.aload_n 0, 1) := by decide +kernel
theorem dX5_keep_77 : decode cX5_keep 77 = .ok (.getfield 39, 3) := by decide +kernel
theorem dX5_keep_80 : decode cX5_keep 80 = .ok (.iconst 1, 1) := by decide +kernel
theorem dX5_keep_81 : decode cX5_keep 81 = .ok (.iadd, 1) := by decide +kernel
theorem dX5_keep_82 : decode cX5_keep 82 = .ok (.goto 4, 3) := by decide +kernel
theorem dX5_keep_85 : decode cX5_keep 85 = .ok (.iconst 0, 1) := by decide +kernel
theorem dX5_keep_86 : decode cX5_keep 86 = .ok (.putfield 39, 3) := by decide +kernel
theorem dX5_keep_89 : decode cX5_keep 89 = .ok (.aload_n 0, 1) := by decide +kernel
theorem dX5_keep_90 : decode cX5_keep 90 = .ok (.aload_n 0, 1) := by decide +kernel
theorem dX5_keep_91 : decode cX5_keep 91 = .ok (.getfield 36, 3) := by decide +kernel
theorem dX5_keep_94 : decode cX5_keep 94 = .ok (.iconst 1, 1) := by decide +kernel
theorem dX5_keep_95 : decode cX5_keep 95 = .ok (.iadd, 1) := by decide +kernel
theorem dX5_keep_96 : decode cX5_keep 96 = .ok (.bipush 20, 2) := by decide +kernel
theorem dX5_keep_98 : decode cX5_keep 98 = .ok (.invokestatic 72, 3) := by decide +kernel
theorem dX5_keep_101 : decode cX5_keep 101 = .ok (.putfield 36, 3) := by decide +kernel
theorem dX5_keep_104 : decode cX5_keep 104 = .ok (.return_, 1) := by decide +kernel
set_option maxRecDepth 20000 in
theorem ggX5_takeBack_X5_isRow : GoodIn wsX5_takeBack wsX5_isRow := goodIn_r _ [16] (by decide +kernel) (by decide +kernel)
set_option maxRecDepth 20000 in
theorem gX5_takeBack_X5_isRow : GoodIn wsX5_takeBack (va_wsS RX5 63 yX5_isRow wsX5_isRow) := goodIn_app (goodIn_of _ (by decide +kernel)) ggX5_takeBack_X5_isRow
theorem dX5_takeBack_0 : decode cX5_takeBack 0 = .ok (.aload_n 0, 1) := by decide +kernel
theorem dX5_takeBack_1 : decode cX5_takeBack 1 = .ok (.getfield 39, 3) := by decide +kernel
theorem dX5_takeBack_4 : decode cX5_takeBack 4 = .ok (.ifCond .le 12, 3) := by decide +kernel
theorem dX5_takeBack_7 : decode cX5_takeBack 7 = .ok (.aload_n 0, 1) := by decide +kernel
theorem dX5_takeBack_8 : decode cX5_takeBack 8 = .ok (.getfield 39, 3) := by decide +kernel
theorem dX5_takeBack_11 : decode cX5_takeBack 11 = .ok (.iconst 1, 1) := by decide +kernel
theorem dX5_takeBack_12 : decode cX5_takeBack 12 = .ok (.isub, 1) := by decide +kernel
theorem dX5_takeBack_13 : decode cX5_takeBack 13 = .ok (.goto 5, 3) := by decide +kernel
theorem dX5_takeBack_16 : decode cX5_takeBack 16 = .ok (.bipush 19, 2) := by decide +kernel
theorem dX5_takeBack_18 : decode cX5_takeBack 18 = .ok (.istore_n 1, 1) := by decide +kernel
theorem dX5_takeBack_19 : decode cX5_takeBack 19 = .ok (.aload_n 0, 1) := by decide +kernel
theorem dX5_takeBack_20 : decode cX5_takeBack 20 = .ok (.getfield 36, 3) := by decide +kernel
theorem dX5_takeBack_23 : decode cX5_takeBack 23 = .ok (.ifCond .le 10, 3) := by decide +kernel
theorem dX5_takeBack_26 : decode cX5_takeBack 26 = .ok (.iload_n 1, 1) := by decide +kernel
theorem dX5_takeBack_27 : decode cX5_takeBack 27 = .ok (.invokestatic 63, 3) := by decide +kernel
theorem dX5_takeBack_30 : decode cX5_takeBack 30 = .ok (.ifCond .ne 4, 3) := by decide +kernel
theorem dX5_takeBack_33 : decode cX5_takeBack 33 = .ok (.return_, 1) := by decide +kernel
theorem dX5_takeBack_34 : decode cX5_takeBack 34 = .ok (.aload_n 0, 1) := by decide +kernel
theorem dX5_takeBack_35 : decode cX5_takeBack 35 = .ok (.getfield 25, 3) := by decide +kernel
theorem dX5_takeBack_38 : decode cX5_takeBack 38 = .ok (.iload_n 1, 1) := by decide +kernel
theorem dX5_takeBack_39 : decode cX5_takeBack 39 = .ok (.aaload, 1) := by decide +kernel
theorem dX5_takeBack_40 : decode cX5_takeBack 40 = .ok (.iconst 0, 1) := by decide +kernel
theorem dX5_takeBack_41 : decode cX5_takeBack 41 = .ok (.aload_n 0, 1) := by decide +kernel
theorem dX5_takeBack_42 : decode cX5_takeBack 42 = .ok (.getfield 9, 3) := by decide +kernel
theorem dX5_takeBack_45 : decode cX5_takeBack 45 = .ok (.iconst 0, 1) := by decide +kernel
theorem dX5_takeBack_46 : decode cX5_takeBack 46 = .ok (.bipush 28, 2) := by decide +kernel
theorem dX5_takeBack_48 : decode cX5_takeBack 48 = .ok (.invokestatic 66, 3) := by decide +kernel
theorem dX5_takeBack_51 : decode cX5_takeBack 51 = .ok (.aload_n 0, 1) := by decide +kernel
theorem dX5_takeBack_52 : decode cX5_takeBack 52 = .ok (.getfield 30, 3) := by decide +kernel
theorem dX5_takeBack_55 : decode cX5_takeBack 55 = .ok (.iload_n 1, 1) := by decide +kernel
theorem dX5_takeBack_56 : decode cX5_takeBack 56 = .ok (.aaload, 1) := by decide +kernel
theorem dX5_takeBack_57 : decode cX5_takeBack 57 = .ok (.iconst 0, 1) := by decide +kernel
theorem dX5_takeBack_58 : decode cX5_takeBack 58 = .ok (.aload_n 0, 1) := by decide +kernel
theorem dX5_takeBack_59 : decode cX5_takeBack 59 = .ok (.getfield 15, 3) := by decide +kernel
theorem dX5_takeBack_62 : decode cX5_takeBack 62 = .ok (.iconst 0, 1) := by decide +kernel
theorem dX5_takeBack_63 : decode cX5_takeBack 63 = .ok (.bipush 28, 2) := by decide +kernel
theorem dX5_takeBack_65 : decode cX5_takeBack 65 = .ok (.invokestatic 66, 3) := by decide +kernel
theorem dX5_takeBack_68 : decode cX5_takeBack 68 = .ok (.aload_n 0, 1) := by decide +kernel
theorem dX5_takeBack_69 : decode cX5_takeBack 69 = .ok (.aload_n 0, 1) := by decide +kernel
theorem dX5_takeBack_70 : decode cX5_takeBack 70 = .ok (.getfield 33, 3) := by decide +kernel
theorem dX5_takeBack_73 : decode cX5_takeBack 73 = .ok (.iload_n 1, 1) := by decide +kernel
theorem dX5_takeBack_74 : decode cX5_takeBack 74 = .ok (.iaload, 1) := by decide +kernel
theorem dX5_takeBack_75 : decode cX5_takeBack 75 = .ok (.putfield 19, 3) := by decide +kernel
theorem dX5_takeBack_78 : decode cX5_takeBack 78 = .ok (.aload_n 0, 1) := by decide +kernel
theorem dX5_takeBack_79 : decode cX5_takeBack 79 = .ok (.iload_n 1, 1) := by decide +kernel
theorem dX5_takeBack_80 : decode cX5_takeBack 80 = .ok (.putfield 39, 3) := by decide +kernel
theorem dX5_takeBack_83 : decode cX5_takeBack 83 = .ok (.aload_n 0, 1) := by decide +kernel
theorem dX5_takeBack_84 : decode cX5_takeBack 84 = .ok (.dup, 1) := by decide +kernel
theorem dX5_takeBack_85 : decode cX5_takeBack 85 = .ok (.getfield 36, 3) := by decide +kernel
theorem dX5_takeBack_88 : decode cX5_takeBack 88 = .ok (.iconst 1, 1) := by decide +kernel
theorem dX5_takeBack_89 : decode cX5_takeBack 89 = .ok (.isub, 1) := by decide +kernel
theorem dX5_takeBack_90 : decode cX5_takeBack 90 = .ok (.putfield 36, 3) := by decide +kernel
theorem dX5_takeBack_93 : decode cX5_takeBack 93 = .ok (.return_, 1) := by decide +kernel
theorem dX5_isFeature_0 : decode cX5_isFeature 0 = .ok (.iload_n 0, 1) := by decide +kernel
theorem dX5_isFeature_1 : decode cX5_isFeature 1 = .ok (.ifCond .lt 13, 3) := by decide +kernel
theorem dX5_isFeature_4 : decode cX5_isFeature 4 = .ok (.iload_n 0, 1) := by decide +kernel
theorem dX5_isFeature_5 : decode cX5_isFeature 5 = .ok (.bipush 28, 2) := by decide +kernel
theorem dX5_isFeature_7 : decode cX5_isFeature 7 = .ok (.if_icmp .ge 7, 3) := by decide +kernel
theorem dX5_isFeature_10 : decode cX5_isFeature 10 = .ok (.iconst 1, 1) := by decide +kernel
theorem dX5_isFeature_11 : decode cX5_isFeature 11 = .ok (.goto 4, 3) := by decide +kernel
theorem dX5_isFeature_14 : decode cX5_isFeature 14 = .ok (.iconst 0, 1) := by decide +kernel
theorem dX5_isFeature_15 : decode cX5_isFeature 15 = .ok (.ireturn, 1) := by decide +kernel
theorem dX5_isRow_0 : decode cX5_isRow 0 = .ok (.iload_n 0, 1) := by decide +kernel
theorem dX5_isRow_1 : decode cX5_isRow 1 = .ok (.ifCond .lt 13, 3) := by decide +kernel
theorem dX5_isRow_4 : decode cX5_isRow 4 = .ok (.iload_n 0, 1) := by decide +kernel
theorem dX5_isRow_5 : decode cX5_isRow 5 = .ok (.bipush 20, 2) := by decide +kernel
theorem dX5_isRow_7 : decode cX5_isRow 7 = .ok (.if_icmp .ge 7, 3) := by decide +kernel
theorem dX5_isRow_10 : decode cX5_isRow 10 = .ok (.iconst 1, 1) := by decide +kernel
theorem dX5_isRow_11 : decode cX5_isRow 11 = .ok (.goto 4, 3) := by decide +kernel
theorem dX5_isRow_14 : decode cX5_isRow 14 = .ok (.iconst 0, 1) := by decide +kernel
theorem dX5_isRow_15 : decode cX5_isRow 15 = .ok (.ireturn, 1) := by decide +kernel
theorem dJ9_floorMod_f86c9_0 : decode cJ9_floorMod_f86c9 0 = .ok (.lload_n 0, 1) := by decide +kernel
theorem dJ9_floorMod_f86c9_1 : decode cJ9_floorMod_f86c9 1 = .ok (.lload_n 2, 1) := by decide +kernel
theorem dJ9_floorMod_f86c9_2 : decode cJ9_floorMod_f86c9 2 = .ok (.lrem, 1) := by decide +kernel
theorem dJ9_floorMod_f86c9_3 : decode cJ9_floorMod_f86c9 3 = .ok (.lstore 4, 2) := by decide +kernel
theorem dJ9_floorMod_f86c9_5 : decode cJ9_floorMod_f86c9 5 = .ok (.lload_n 0, 1) := by decide +kernel
theorem dJ9_floorMod_f86c9_6 : decode cJ9_floorMod_f86c9 6 = .ok (.lload_n 2, 1) := by decide +kernel
theorem dJ9_floorMod_f86c9_7 : decode cJ9_floorMod_f86c9 7 = .ok (.lxor, 1) := by decide +kernel
theorem dJ9_floorMod_f86c9_8 : decode cJ9_floorMod_f86c9 8 = .ok (.lconst 0, 1) := by decide +kernel
theorem dJ9_floorMod_f86c9_9 : decode cJ9_floorMod_f86c9 9 = .ok (.lcmp, 1) := by decide +kernel
theorem dJ9_floorMod_f86c9_10 : decode cJ9_floorMod_f86c9 10 = .ok (.ifCond .ge 15, 3) := by decide +kernel
theorem dJ9_floorMod_f86c9_13 : decode cJ9_floorMod_f86c9 13 = .ok (.lload 4, 2) := by decide +kernel
theorem dJ9_floorMod_f86c9_15 : decode cJ9_floorMod_f86c9 15 = .ok (.lconst 0, 1) := by decide +kernel
theorem dJ9_floorMod_f86c9_16 : decode cJ9_floorMod_f86c9 16 = .ok (.lcmp, 1) := by decide +kernel
theorem dJ9_floorMod_f86c9_17 : decode cJ9_floorMod_f86c9 17 = .ok (.ifCond .eq 8, 3) := by decide +kernel
theorem dJ9_floorMod_f86c9_20 : decode cJ9_floorMod_f86c9 20 = .ok (.lload 4, 2) := by decide +kernel
theorem dJ9_floorMod_f86c9_22 : decode cJ9_floorMod_f86c9 22 = .ok (.lload_n 2, 1) := by decide +kernel
theorem dJ9_floorMod_f86c9_23 : decode cJ9_floorMod_f86c9 23 = .ok (.ladd, 1) := by decide +kernel
theorem dJ9_floorMod_f86c9_24 : decode cJ9_floorMod_f86c9 24 = .ok (.lreturn, 1) := by decide +kernel
theorem dJ9_floorMod_f86c9_25 : decode cJ9_floorMod_f86c9 25 = .ok (.lload 4, 2) := by decide +kernel
theorem dJ9_floorMod_f86c9_27 : decode cJ9_floorMod_f86c9 27 = .ok (.lreturn, 1) := by decide +kernel
theorem dJ9_abs_0f7a4_0 : decode cJ9_abs_0f7a4 0 = .ok (.iload_n 0, 1) := by decide +kernel
theorem dJ9_abs_0f7a4_1 : decode cJ9_abs_0f7a4 1 = .ok (.ifCond .ge 8, 3) := by decide +kernel
theorem dJ9_abs_0f7a4_4 : decode cJ9_abs_0f7a4 4 = .ok (.iload_n 0, 1) := by decide +kernel
theorem dJ9_abs_0f7a4_5 : decode cJ9_abs_0f7a4 5 = .ok (.ineg, 1) := by decide +kernel
theorem dJ9_abs_0f7a4_6 : decode cJ9_abs_0f7a4 6 = .ok (.goto 4, 3) := by decide +kernel
theorem dJ9_abs_0f7a4_9 : decode cJ9_abs_0f7a4 9 = .ok (.iload_n 0, 1) := by decide +kernel
theorem dJ9_abs_0f7a4_10 : decode cJ9_abs_0f7a4 10 = .ok (.ireturn, 1) := by decide +kernel
theorem dJ9_max_7cf53_0 : decode cJ9_max_7cf53 0 = .ok (.iload_n 0, 1) := by decide +kernel
theorem dJ9_max_7cf53_1 : decode cJ9_max_7cf53 1 = .ok (.iload_n 1, 1) := by decide +kernel
theorem dJ9_max_7cf53_2 : decode cJ9_max_7cf53 2 = .ok (.if_icmp .lt 7, 3) := by decide +kernel
theorem dJ9_max_7cf53_5 : decode cJ9_max_7cf53 5 = .ok (.iload_n 0, 1) := by decide +kernel
theorem dJ9_max_7cf53_6 : decode cJ9_max_7cf53 6 = .ok (.goto 4, 3) := by decide +kernel
theorem dJ9_max_7cf53_9 : decode cJ9_max_7cf53 9 = .ok (.iload_n 1, 1) := by decide +kernel
theorem dJ9_max_7cf53_10 : decode cJ9_max_7cf53 10 = .ok (.ireturn, 1) := by decide +kernel
theorem dJ9_max_f86c9_0 : decode cJ9_max_f86c9 0 = .ok (.lload_n 0, 1) := by decide +kernel
theorem dJ9_max_f86c9_1 : decode cJ9_max_f86c9 1 = .ok (.lload_n 2, 1) := by decide +kernel
theorem dJ9_max_f86c9_2 : decode cJ9_max_f86c9 2 = .ok (.lcmp, 1) := by decide +kernel
theorem dJ9_max_f86c9_3 : decode cJ9_max_f86c9 3 = .ok (.ifCond .lt 7, 3) := by decide +kernel
theorem dJ9_max_f86c9_6 : decode cJ9_max_f86c9 6 = .ok (.lload_n 0, 1) := by decide +kernel
theorem dJ9_max_f86c9_7 : decode cJ9_max_f86c9 7 = .ok (.goto 4, 3) := by decide +kernel
theorem dJ9_max_f86c9_10 : decode cJ9_max_f86c9 10 = .ok (.lload_n 2, 1) := by decide +kernel
theorem dJ9_max_f86c9_11 : decode cJ9_max_f86c9 11 = .ok (.lreturn, 1) := by decide +kernel
theorem dJ9_min_7cf53_0 : decode cJ9_min_7cf53 0 = .ok (.iload_n 0, 1) := by decide +kernel
theorem dJ9_min_7cf53_1 : decode cJ9_min_7cf53 1 = .ok (.iload_n 1, 1) := by decide +kernel
theorem dJ9_min_7cf53_2 : decode cJ9_min_7cf53 2 = .ok (.if_icmp .gt 7, 3) := by decide +kernel
theorem dJ9_min_7cf53_5 : decode cJ9_min_7cf53 5 = .ok (.iload_n 0, 1) := by decide +kernel
theorem dJ9_min_7cf53_6 : decode cJ9_min_7cf53 6 = .ok (.goto 4, 3) := by decide +kernel
theorem dJ9_min_7cf53_9 : decode cJ9_min_7cf53 9 = .ok (.iload_n 1, 1) := by decide +kernel
theorem dJ9_min_7cf53_10 : decode cJ9_min_7cf53 10 = .ok (.ireturn, 1) := by decide +kernel
theorem dJ9_min_f86c9_0 : decode cJ9_min_f86c9 0 = .ok (.lload_n 0, 1) := by decide +kernel
theorem dJ9_min_f86c9_1 : decode cJ9_min_f86c9 1 = .ok (.lload_n 2, 1) := by decide +kernel
theorem dJ9_min_f86c9_2 : decode cJ9_min_f86c9 2 = .ok (.lcmp, 1) := by decide +kernel
theorem dJ9_min_f86c9_3 : decode cJ9_min_f86c9 3 = .ok (.ifCond .gt 7, 3) := by decide +kernel
theorem dJ9_min_f86c9_6 : decode cJ9_min_f86c9 6 = .ok (.lload_n 0, 1) := by decide +kernel
theorem dJ9_min_f86c9_7 : decode cJ9_min_f86c9 7 = .ok (.goto 4, 3) := by decide +kernel
theorem dJ9_min_f86c9_10 : decode cJ9_min_f86c9 10 = .ok (.lload_n 2, 1) := by decide +kernel
theorem dJ9_min_f86c9_11 : decode cJ9_min_f86c9 11 = .ok (.lreturn, 1) := by decide +kernel
theorem dJ7_fill_d0a16_0 : decode cJ7_fill_d0a16 0 = .ok (.iconst 0, 1) := by decide +kernel
theorem dJ7_fill_d0a16_1 : decode cJ7_fill_d0a16 1 = .ok (.istore_n 3, 1) := by decide +kernel
theorem dJ7_fill_d0a16_2 : decode cJ7_fill_d0a16 2 = .ok (.aload_n 0, 1) := by decide +kernel
theorem dJ7_fill_d0a16_3 : decode cJ7_fill_d0a16 3 = .ok (.arraylength, 1) := by decide +kernel
theorem dJ7_fill_d0a16_4 : decode cJ7_fill_d0a16 4 = .ok (.istore 4, 2) := by decide +kernel
theorem dJ7_fill_d0a16_6 : decode cJ7_fill_d0a16 6 = .ok (.iload_n 3, 1) := by decide +kernel
theorem dJ7_fill_d0a16_7 : decode cJ7_fill_d0a16 7 = .ok (.iload 4, 2) := by decide +kernel
theorem dJ7_fill_d0a16_9 : decode cJ7_fill_d0a16 9 = .ok (.if_icmp .ge 13, 3) := by decide +kernel
theorem dJ7_fill_d0a16_12 : decode cJ7_fill_d0a16 12 = .ok (.aload_n 0, 1) := by decide +kernel
theorem dJ7_fill_d0a16_13 : decode cJ7_fill_d0a16 13 = .ok (.iload_n 3, 1) := by decide +kernel
theorem dJ7_fill_d0a16_14 : decode cJ7_fill_d0a16 14 = .ok (.lload_n 1, 1) := by decide +kernel
theorem dJ7_fill_d0a16_15 : decode cJ7_fill_d0a16 15 = .ok (.lastore, 1) := by decide +kernel
theorem dJ7_fill_d0a16_16 : decode cJ7_fill_d0a16 16 = .ok (.iinc 3 1, 3) := by decide +kernel
theorem dJ7_fill_d0a16_19 : decode cJ7_fill_d0a16 19 = .ok (.goto (-13), 3) := by decide +kernel
theorem dJ7_fill_d0a16_22 : decode cJ7_fill_d0a16 22 = .ok (.return_, 1) := by decide +kernel
theorem dJ7_fill_53178_0 : decode cJ7_fill_53178 0 = .ok (.iconst 0, 1) := by decide +kernel
theorem dJ7_fill_53178_1 : decode cJ7_fill_53178 1 = .ok (.istore_n 2, 1) := by decide +kernel
theorem dJ7_fill_53178_2 : decode cJ7_fill_53178 2 = .ok (.aload_n 0, 1) := by decide +kernel
theorem dJ7_fill_53178_3 : decode cJ7_fill_53178 3 = .ok (.arraylength, 1) := by decide +kernel
theorem dJ7_fill_53178_4 : decode cJ7_fill_53178 4 = .ok (.istore_n 3, 1) := by decide +kernel
theorem dJ7_fill_53178_5 : decode cJ7_fill_53178 5 = .ok (.iload_n 2, 1) := by decide +kernel
theorem dJ7_fill_53178_6 : decode cJ7_fill_53178 6 = .ok (.iload_n 3, 1) := by decide +kernel
theorem dJ7_fill_53178_7 : decode cJ7_fill_53178 7 = .ok (.if_icmp .ge 13, 3) := by decide +kernel
theorem dJ7_fill_53178_10 : decode cJ7_fill_53178 10 = .ok (.aload_n 0, 1) := by decide +kernel
theorem dJ7_fill_53178_11 : decode cJ7_fill_53178 11 = .ok (.iload_n 2, 1) := by decide +kernel
theorem dJ7_fill_53178_12 : decode cJ7_fill_53178 12 = .ok (.iload_n 1, 1) := by decide +kernel
theorem dJ7_fill_53178_13 : decode cJ7_fill_53178 13 = .ok (.iastore, 1) := by decide +kernel
theorem dJ7_fill_53178_14 : decode cJ7_fill_53178 14 = .ok (.iinc 2 1, 3) := by decide +kernel
theorem dJ7_fill_53178_17 : decode cJ7_fill_53178 17 = .ok (.goto (-12), 3) := by decide +kernel
theorem dJ7_fill_53178_20 : decode cJ7_fill_53178 20 = .ok (.return_, 1) := by decide +kernel

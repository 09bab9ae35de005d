theorem dX7_init_0 : decode cX7_init 0 = .ok (.aload_n 0, 1) := by decide +kernel
theorem dX7_init_1 : decode cX7_init 1 = .ok (.invokespecial 1, 3) := by decide +kernel
theorem dX7_init_4 : decode cX7_init 4 = .ok (.aload_n 0, 1) := by decide +kernel
theorem dX7_init_5 : decode cX7_init 5 = .ok (.iconst 5, 1) := by decide +kernel
theorem dX7_init_6 : decode cX7_init 6 = .ok (.newarray .int, 2) := by decide +kernel
theorem dX7_init_8 : decode cX7_init 8 = .ok (.putfield 7, 3) := by decide +kernel
theorem dX7_init_11 : decode cX7_init 11 = .ok (.aload_n 0, 1) := by decide +kernel
theorem dX7_init_12 : decode cX7_init 12 = .ok (.bipush 35, 2) := by decide +kernel
theorem dX7_init_14 : decode cX7_init 14 = .ok (.newarray .int, 2) := by decide +kernel
theorem dX7_init_16 : decode cX7_init 16 = .ok (.putfield 13, 3) := by decide +kernel
theorem dX7_init_19 : decode cX7_init 19 = .ok (.aload_n 0, 1) := by decide +kernel
theorem dX7_init_20 : decode cX7_init 20 = .ok (.sipush 245, 3) := by decide +kernel
theorem dX7_init_23 : decode cX7_init 23 = .ok (.newarray .int, 2) := by decide +kernel
theorem dX7_init_25 : decode cX7_init 25 = .ok (.putfield 16, 3) := by decide +kernel
theorem dX7_init_28 : decode cX7_init 28 = .ok (.aload_n 0, 1) := by decide +kernel
theorem dX7_init_29 : decode cX7_init 29 = .ok (.bipush 35, 2) := by decide +kernel
theorem dX7_init_31 : decode cX7_init 31 = .ok (.newarray .int, 2) := by decide +kernel
theorem dX7_init_33 : decode cX7_init 33 = .ok (.putfield 19, 3) := by decide +kernel
theorem dX7_init_36 : decode cX7_init 36 = .ok (.aload_n 0, 1) := by decide +kernel
theorem dX7_init_37 : decode cX7_init 37 = .ok (.bipush 28, 2) := by decide +kernel
theorem dX7_init_39 : decode cX7_init 39 = .ok (.newarray .int, 2) := by decide +kernel
theorem dX7_init_41 : decode cX7_init 41 = .ok (.putfield 22, 3) := by decide +kernel
theorem dX7_init_44 : decode cX7_init 44 = .ok (.aload_n 0, 1) := by decide +kernel
theorem dX7_init_45 : decode cX7_init 45 = .ok (.bipush 28, 2) := by decide +kernel
theorem dX7_init_47 : decode cX7_init 47 = .ok (.newarray .long, 2) := by decide +kernel
theorem dX7_init_49 : decode cX7_init 49 = .ok (.putfield 25, 3) := by decide +kernel
theorem dX7_init_52 : decode cX7_init 52 = .ok (.aload_n 0, 1) := by decide +kernel
theorem dX7_init_53 : decode cX7_init 53 = .ok (.bipush 20, 2) := by decide +kernel
theorem dX7_init_55 : decode cX7_init 55 = .ok (.newarray .int, 2) := by decide +kernel
theorem dX7_init_57 : decode cX7_init 57 = .ok (.putfield 29, 3) := by decide +kernel
theorem dX7_init_60 : decode cX7_init 60 = .ok (.aload_n 0, 1) := by decide +kernel
theorem dX7_init_61 : decode cX7_init 61 = .ok (.sipush 560, 3) := by decide +kernel
theorem dX7_init_64 : decode cX7_init 64 = .ok (.newarray .int, 2) := by decide +kernel
theorem dX7_init_66 : decode cX7_init 66 = .ok (.putfield 32, 3) := by decide +kernel
theorem dX7_init_69 : decode cX7_init 69 = .ok (.aload_n 0, 1) := by decide +kernel
theorem dX7_init_70 : decode cX7_init 70 = .ok (.sipush 16807, 3) := by decide +kernel
theorem dX7_init_73 : decode cX7_init 73 = .ok (.newarray .long, 2) := by decide +kernel
theorem dX7_init_75 : decode cX7_init 75 = .ok (.putfield 35, 3) := by decide +kernel
theorem dX7_init_78 : decode cX7_init 78 = .ok (.aload_n 0, 1) := by decide +kernel
theorem dX7_init_79 : decode cX7_init 79 = .ok (.iconst (-1), 1) := by decide +kernel
theorem dX7_init_80 : decode cX7_init 80 = .ok (.putfield 38, 3) := by decide +kernel
theorem dX7_init_83 : decode cX7_init 83 = .ok (.aload_n 0, 1) := by decide +kernel
theorem dX7_init_84 : decode cX7_init 84 = .ok (.bipush 10, 2) := by decide +kernel
theorem dX7_init_86 : decode cX7_init 86 = .ok (.newarray .long, 2) := by decide +kernel
theorem dX7_init_88 : decode cX7_init 88 = .ok (.putfield 42, 3) := by decide +kernel
theorem dX7_init_91 : decode cX7_init 91 = .ok (.aload_n 0, 1) := by decide +kernel
theorem dX7_init_92 : decode cX7_init 92 = .ok (.bipush 10, 2) := by decide +kernel
theorem dX7_init_94 : decode cX7_init 94 = .ok (.newarray .int, 2) := by decide +kernel
theorem dX7_init_96 : decode cX7_init 96 = .ok (.putfield 45, 3) := by decide +kernel
theorem dX7_init_99 : decode cX7_init 99 = .ok (.aload_n 0, 1) := by decide +kernel
theorem dX7_init_100 : decode cX7_init 100 = .ok (.bipush 10, 2) := by decide +kernel
theorem dX7_init_102 : decode cX7_init 102 = .ok (.newarray .boolean, 2) := by decide +kernel
theorem dX7_init_104 : decode cX7_init 104 = .ok (.putfield 48, 3) := by decide +kernel
theorem dX7_init_107 : decode cX7_init 107 = .ok (.aload_n 0, 1) := by decide +kernel
theorem dX7_init_108 : decode cX7_init 108 = .ok (.bipush 7, 2) := by decide +kernel
theorem dX7_init_110 : decode cX7_init 110 = .ok (.newarray .int, 2) := by decide +kernel
theorem dX7_init_112 : decode cX7_init 112 = .ok (.putfield 52, 3) := by decide +kernel
theorem dX7_init_115 : decode cX7_init 115 = .ok (.return_, 1) := by decide +kernel
theorem dX7_thrown_0 : decode cX7_thrown 0 = .ok (.aload_n 0, 1) := by decide +kernel
theorem dX7_thrown_1 : decode cX7_thrown 1 = .ok (.getfield 55, 3) := by decide +kernel
theorem dX7_thrown_4 : decode cX7_thrown 4 = .ok (.ireturn, 1) := by decide +kernel
theorem dX7_fails_0 : decode cX7_fails 0 = .ok (.aload_n 0, 1) := by decide +kernel
theorem dX7_fails_1 : decode cX7_fails 1 = .ok (.iload_n 1, 1) := by decide +kernel
theorem dX7_fails_2 : decode cX7_fails 2 = .ok (.putfield 55, 3) := by decide +kernel
theorem dX7_fails_5 : decode cX7_fails 5 = .ok (.iconst 0, 1) := by decide +kernel
theorem dX7_fails_6 : decode cX7_fails 6 = .ok (.ireturn, 1) := by decide +kernel
theorem dX7_asks_0 : decode cX7_asks 0 = .ok (.aload_n 0, 1) := by decide +kernel
theorem dX7_asks_1 : decode cX7_asks 1 = .ok (.iload_n 1, 1) := by decide +kernel
theorem dX7_asks_2 : decode cX7_asks 2 = .ok (.ifCond .eq 7, 3) := by decide +kernel
theorem dX7_asks_5 : decode cX7_asks 5 = .ok (.iconst 0, 1) := by decide +kernel
theorem dX7_asks_6 : decode cX7_asks 6 = .ok (.goto 4, 3) := by decide +kernel
theorem dX7_asks_9 : decode cX7_asks 9 = .ok (.iconst 1, 1) := by decide +kernel
theorem dX7_asks_10 : decode cX7_asks 10 = .ok (.putfield 55, 3) := by decide +kernel
theorem dX7_asks_13 : decode cX7_asks 13 = .ok (.iload_n 1, 1) := by decide +kernel
theorem dX7_asks_14 : decode cX7_asks 14 = .ok (.ireturn, 1) := by decide +kernel
theorem dX7_changed_0 : decode cX7_changed 0 = .ok (.aload_n 0, 1) := by decide +kernel
theorem dX7_changed_1 : decode cX7_changed 1 = .ok (.iconst (-1), 1) := by decide +kernel
theorem dX7_changed_2 : decode cX7_changed 2 = .ok (.putfield 38, 3) := by decide +kernel
theorem dX7_changed_5 : decode cX7_changed 5 = .ok (.iconst 0, 1) := by decide +kernel
theorem dX7_changed_6 : decode cX7_changed 6 = .ok (.istore_n 1, 1) := by decide +kernel
theorem dX7_changed_7 : decode cX7_changed 7 = .ok (.iload_n 1, 1) := by decide +kernel
theorem dX7_changed_8 : decode cX7_changed 8 = .ok (.bipush 10, 2) := by decide +kernel
theorem dX7_changed_10 : decode cX7_changed 10 = .ok (.if_icmp .ge 16, 3) := by decide +kernel
theorem dX7_changed_13 : decode cX7_changed 13 = .ok (.aload_n 0, 1) := by decide +kernel
theorem dX7_changed_14 : decode cX7_changed 14 = .ok (.getfield 48, 3) := by decide +kernel
theorem dX7_changed_17 : decode cX7_changed 17 = .ok (.iload_n 1, 1) := by decide +kernel
theorem dX7_changed_18 : decode cX7_changed 18 = .ok (.iconst 0, 1) := by decide +kernel
theorem dX7_changed_19 : decode cX7_changed 19 = .ok (.bastore, 1) := by decide +kernel
theorem dX7_changed_20 : decode cX7_changed 20 = .ok (.iinc 1 1, 3) := by decide +kernel
theorem dX7_changed_23 : decode cX7_changed 23 = .ok (.goto (-16), 3) := by decide +kernel
theorem dX7_changed_26 : decode cX7_changed 26 = .ok (.return_, 1) := by decide +kernel
theorem dX7_isSentence_0 : decode cX7_isSentence 0 = .ok (.iload_n 1, 1) := by decide +kernel
theorem dX7_isSentence_1 : decode cX7_isSentence 1 = .ok (.ifCond .lt 15, 3) := by decide +kernel
theorem dX7_isSentence_4 : decode cX7_isSentence 4 = .ok (.iload_n 1, 1) := by decide +kernel
theorem dX7_isSentence_5 : decode cX7_isSentence 5 = .ok (.aload_n 0, 1) := by decide +kernel
theorem dX7_isSentence_6 : decode cX7_isSentence 6 = .ok (.getfield 58, 3) := by decide +kernel
theorem dX7_isSentence_9 : decode cX7_isSentence 9 = .ok (.if_icmp .ge 7, 3) := by decide +kernel
theorem dX7_isSentence_12 : decode cX7_isSentence 12 = .ok (.iconst 1, 1) := by decide +kernel
theorem dX7_isSentence_13 : decode cX7_isSentence 13 = .ok (.goto 4, 3) := by decide +kernel
theorem dX7_isSentence_16 : decode cX7_isSentence 16 = .ok (.iconst 0, 1) := by decide +kernel
theorem dX7_isSentence_17 : decode cX7_isSentence 17 = .ok (.ireturn, 1) := by decide +kernel
set_option maxRecDepth 20000 in
theorem ggX7_isWord_X7_isSentence : GoodIn wsX7_isWord wsX7_isSentence := goodIn_r _ [6, 7, 8, 9, 10, 11, 12, 13, 14, 15, 16, 17, 18, 19, 20, 21, 22, 23, 24, 25, 26, 27] (by decide +kernel) (by decide +kernel)
set_option maxRecDepth 20000 in
theorem gX7_isWord_X7_isSentence : GoodIn wsX7_isWord (wsV RX7 61 RX7 yX7_isSentence wsX7_isSentence) := goodIn_app (goodIn_of _ (by decide +kernel)) ggX7_isWord_X7_isSentence
theorem dX7_isWord_0 : decode cX7_isWord 0 = .ok (.aload_n 0, 1) := by decide +kernel
theorem dX7_isWord_1 : decode cX7_isWord 1 = .ok (.iload_n 1, 1) := by decide +kernel
theorem dX7_isWord_2 : decode cX7_isWord 2 = .ok (.invokevirtual 61, 3) := by decide +kernel
theorem dX7_isWord_5 : decode cX7_isWord 5 = .ok (.ifCond .eq 21, 3) := by decide +kernel
theorem dX7_isWord_8 : decode cX7_isWord 8 = .ok (.iload_n 2, 1) := by decide +kernel
theorem dX7_isWord_9 : decode cX7_isWord 9 = .ok (.ifCond .le 17, 3) := by decide +kernel
theorem dX7_isWord_12 : decode cX7_isWord 12 = .ok (.iload_n 2, 1) := by decide +kernel
theorem dX7_isWord_13 : decode cX7_isWord 13 = .ok (.aload_n 0, 1) := by decide +kernel
theorem dX7_isWord_14 : decode cX7_isWord 14 = .ok (.getfield 7, 3) := by decide +kernel
theorem dX7_isWord_17 : decode cX7_isWord 17 = .ok (.iload_n 1, 1) := by decide +kernel
theorem dX7_isWord_18 : decode cX7_isWord 18 = .ok (.iaload, 1) := by decide +kernel
theorem dX7_isWord_19 : decode cX7_isWord 19 = .ok (.if_icmp .gt 7, 3) := by decide +kernel
theorem dX7_isWord_22 : decode cX7_isWord 22 = .ok (.iconst 1, 1) := by decide +kernel
theorem dX7_isWord_23 : decode cX7_isWord 23 = .ok (.goto 4, 3) := by decide +kernel
theorem dX7_isWord_26 : decode cX7_isWord 26 = .ok (.iconst 0, 1) := by decide +kernel
theorem dX7_isWord_27 : decode cX7_isWord 27 = .ok (.ireturn, 1) := by decide +kernel
set_option maxRecDepth 20000 in
theorem ggX7_isPlace_X7_isSentence : GoodIn wsX7_isPlace wsX7_isSentence := goodIn_r _ [6, 7, 8, 9, 10, 11, 12, 13, 14, 15, 16, 17, 18, 19, 20, 21, 22, 23, 24, 25, 26, 27] (by decide +kernel) (by decide +kernel)
set_option maxRecDepth 20000 in
theorem gX7_isPlace_X7_isSentence : GoodIn wsX7_isPlace (wsV RX7 61 RX7 yX7_isSentence wsX7_isSentence) := goodIn_app (goodIn_of _ (by decide +kernel)) ggX7_isPlace_X7_isSentence
theorem dX7_isPlace_0 : decode cX7_isPlace 0 = .ok (.aload_n 0, 1) := by decide +kernel
theorem dX7_isPlace_1 : decode cX7_isPlace 1 = .ok (.iload_n 1, 1) := by decide +kernel
theorem dX7_isPlace_2 : decode cX7_isPlace 2 = .ok (.invokevirtual 61, 3) := by decide +kernel
theorem dX7_isPlace_5 : decode cX7_isPlace 5 = .ok (.ifCond .eq 21, 3) := by decide +kernel
theorem dX7_isPlace_8 : decode cX7_isPlace 8 = .ok (.iload_n 2, 1) := by decide +kernel
theorem dX7_isPlace_9 : decode cX7_isPlace 9 = .ok (.ifCond .lt 17, 3) := by decide +kernel
theorem dX7_isPlace_12 : decode cX7_isPlace 12 = .ok (.iload_n 2, 1) := by decide +kernel
theorem dX7_isPlace_13 : decode cX7_isPlace 13 = .ok (.aload_n 0, 1) := by decide +kernel
theorem dX7_isPlace_14 : decode cX7_isPlace 14 = .ok (.getfield 7, 3) := by decide +kernel
theorem dX7_isPlace_17 : decode cX7_isPlace 17 = .ok (.iload_n 1, 1) := by decide +kernel
theorem dX7_isPlace_18 : decode cX7_isPlace 18 = .ok (.iaload, 1) := by decide +kernel
theorem dX7_isPlace_19 : decode cX7_isPlace 19 = .ok (.if_icmp .gt 7, 3) := by decide +kernel
theorem dX7_isPlace_22 : decode cX7_isPlace 22 = .ok (.iconst 1, 1) := by decide +kernel
theorem dX7_isPlace_23 : decode cX7_isPlace 23 = .ok (.goto 4, 3) := by decide +kernel
theorem dX7_isPlace_26 : decode cX7_isPlace 26 = .ok (.iconst 0, 1) := by decide +kernel
theorem dX7_isPlace_27 : decode cX7_isPlace 27 = .ok (.ireturn, 1) := by decide +kernel
set_option maxRecDepth 20000 in
theorem ggX7_addSentence_X7_asks : GoodIn wsX7_addSentence wsX7_asks := goodIn_r _ [6, 7, 8, 9, 10, 11, 12, 13, 14, 15, 16, 17, 18, 19, 20, 21, 22, 23, 24, 25, 26, 27] (by decide +kernel) (by decide +kernel)
set_option maxRecDepth 20000 in
theorem gX7_addSentence_X7_asks : GoodIn wsX7_addSentence (wsV RX7 65 RX7 yX7_asks wsX7_asks) := goodIn_app (goodIn_of _ (by decide +kernel)) ggX7_addSentence_X7_asks
theorem dX7_addSentence_0 : decode cX7_addSentence 0 = .ok (.aload_n 0, 1) := by decide +kernel
theorem dX7_addSentence_1 : decode cX7_addSentence 1 = .ok (.aload_n 0, 1) := by decide +kernel
theorem dX7_addSentence_2 : decode cX7_addSentence 2 = .ok (.getfield 58, 3) := by decide +kernel
theorem dX7_addSentence_5 : decode cX7_addSentence 5 = .ok (.iconst 5, 1) := by decide +kernel
theorem dX7_addSentence_6 : decode cX7_addSentence 6 = .ok (.if_icmp .ge 7, 3) := by decide +kernel
theorem dX7_addSentence_9 : decode cX7_addSentence 9 = .ok (.iconst 1, 1) := by decide +kernel
theorem dX7_addSentence_10 : decode cX7_addSentence 10 = .ok (.goto 4, 3) := by decide +kernel
theorem dX7_addSentence_13 : decode cX7_addSentence 13 = .ok (.iconst 0, 1) := by decide +kernel
theorem dX7_addSentence_14 : decode cX7_addSentence 14 = .ok (.invokevirtual 65, 3) := by decide +kernel
theorem dX7_addSentence_17 : decode cX7_addSentence 17 = .ok (.ifCond .ne 5, 3) := by decide +kernel
theorem dX7_addSentence_20 : decode cX7_addSentence 20 = .ok (.iconst 0, 1) := by decide +kernel
theorem dX7_addSentence_21 : decode cX7_addSentence 21 = .ok (.ireturn, 1) := by decide +kernel
theorem dX7_addSentence_22 : decode cX7_addSentence 22 = .ok (.aload_n 0, 1) := by decide +kernel
theorem dX7_addSentence_23 : decode cX7_addSentence 23 = .ok (.dup, 1) := by decide +kernel
theorem dX7_addSentence_24 : decode cX7_addSentence 24 = .ok (.getfield 58, 3) := by decide +kernel
theorem dX7_addSentence_27 : decode cX7_addSentence 27 = .ok (.iconst 1, 1) := by decide +kernel
theorem dX7_addSentence_28 : decode cX7_addSentence 28 = .ok (.iadd, 1) := by decide +kernel
theorem dX7_addSentence_29 : decode cX7_addSentence 29 = .ok (.putfield 58, 3) := by decide +kernel
theorem dX7_addSentence_32 : decode cX7_addSentence 32 = .ok (.aload_n 0, 1) := by decide +kernel
theorem dX7_addSentence_33 : decode cX7_addSentence 33 = .ok (.getfield 58, 3) := by decide +kernel
theorem dX7_addSentence_36 : decode cX7_addSentence 36 = .ok (.iconst 1, 1) := by decide +kernel
theorem dX7_addSentence_37 : decode cX7_addSentence 37 = .ok (.isub, 1) := by decide +kernel
theorem dX7_addSentence_38 : decode cX7_addSentence 38 = .ok (.ireturn, 1) := by decide +kernel
set_option maxRecDepth 20000 in
theorem ggX7_addWord_X7_isSentence : GoodIn wsX7_addWord wsX7_isSentence := goodIn_r _ [8, 9, 25, 26, 27, 28, 29, 30, 31, 32, 33, 34, 35, 36, 37, 38, 39, 40, 41, 42, 43, 44] (by decide +kernel) (by decide +kernel)
set_option maxRecDepth 20000 in
theorem gX7_addWord_X7_isSentence : GoodIn wsX7_addWord (wsV RX7 61 RX7 yX7_isSentence wsX7_isSentence) := goodIn_app (goodIn_of _ (by decide +kernel)) ggX7_addWord_X7_isSentence
set_option maxRecDepth 20000 in
theorem ggX7_addWord_X7_asks : GoodIn wsX7_addWord wsX7_asks := goodIn_r _ [13, 14, 25, 26, 27, 28, 29, 30, 31, 32, 33, 34, 35, 36, 37, 38, 39, 40, 41, 42, 43, 44] (by decide +kernel) (by decide +kernel)
set_option maxRecDepth 20000 in
theorem gX7_addWord_X7_asks : GoodIn wsX7_addWord (wsV RX7 65 RX7 yX7_asks wsX7_asks) := goodIn_app (goodIn_of _ (by decide +kernel)) ggX7_addWord_X7_asks
set_option maxRecDepth 20000 in
theorem ggX7_addWord_X7_fails : GoodIn wsX7_addWord wsX7_fails := goodIn_r _ [18, 14, 25, 26, 27, 28, 29, 30, 31, 32, 33, 34, 35, 36, 37, 38, 39, 40, 41, 42, 43, 44] (by decide +kernel) (by decide +kernel)
set_option maxRecDepth 20000 in
theorem gX7_addWord_X7_fails : GoodIn wsX7_addWord (wsV RX7 69 RX7 yX7_fails wsX7_fails) := goodIn_app (goodIn_of _ (by decide +kernel)) ggX7_addWord_X7_fails
set_option maxRecDepth 20000 in
theorem ggX7_addWord_X7_changed : GoodIn wsX7_addWord wsX7_changed := goodIn_r _ [22, 23, 24, 25, 26, 27, 28, 29, 30, 31, 32, 33, 34, 35, 36, 37, 38, 39, 40, 41, 42, 43, 44] (by decide +kernel) (by decide +kernel)
set_option maxRecDepth 20000 in
theorem gX7_addWord_X7_changed : GoodIn wsX7_addWord (wsV RX7 73 RX7 yX7_changed wsX7_changed) := goodIn_app (goodIn_of _ (by decide +kernel)) ggX7_addWord_X7_changed
theorem dX7_addWord_0 : decode cX7_addWord 0 = .ok (.aload_n 0, 1) := by decide +kernel
theorem dX7_addWord_1 : decode cX7_addWord 1 = .ok (.aload_n 0, 1) := by decide +kernel
theorem dX7_addWord_2 : decode cX7_addWord 2 = .ok (.iload_n 1, 1) := by decide +kernel
theorem dX7_addWord_3 : decode cX7_addWord 3 = .ok (.invokevirtual 61, 3) := by decide +kernel
theorem dX7_addWord_6 : decode cX7_addWord 6 = .ok (.invokevirtual 65, 3) := by decide +kernel
theorem dX7_addWord_9 : decode cX7_addWord 9 = .ok (.ifCond .ne 5, 3) := by decide +kernel
theorem dX7_addWord_12 : decode cX7_addWord 12 = .ok (.iconst 0, 1) := by decide +kernel
theorem dX7_addWord_13 : decode cX7_addWord 13 = .ok (.ireturn, 1) := by decide +kernel
theorem dX7_addWord_14 : decode cX7_addWord 14 = .ok (.iload_n 2, 1) := by decide +kernel
theorem dX7_addWord_15 : decode cX7_addWord 15 = .ok (.ifCond .lt 8, 3) := by decide +kernel
theorem dX7_addWord_18 : decode cX7_addWord 18 = .ok (.iload_n 2, 1) := by decide +kernel
theorem dX7_addWord_19 : decode cX7_addWord 19 = .ok (.iconst 3, 1) := by decide +kernel
theorem dX7_addWord_20 : decode cX7_addWord 20 = .ok (.if_icmp .le 9, 3) := by decide +kernel
theorem dX7_addWord_23 : decode cX7_addWord 23 = .ok (.aload_n 0, 1) := by decide +kernel
theorem dX7_addWord_24 : decode cX7_addWord 24 = .ok (.iconst 2, 1) := by decide +kernel
theorem dX7_addWord_25 : decode cX7_addWord 25 = .ok (.invokevirtual 69, 3) := by decide +kernel
theorem dX7_addWord_28 : decode cX7_addWord 28 = .ok (.ireturn, 1) := by decide +kernel
theorem dX7_addWord_29 : decode cX7_addWord 29 = .ok (.aload_n 0, 1) := by decide +kernel
theorem dX7_addWord_30 : decode cX7_addWord 30 = .ok (.getfield 7, 3) := by decide +kernel
theorem dX7_addWord_33 : decode cX7_addWord 33 = .ok (.iload_n 1, 1) := by decide +kernel
theorem dX7_addWord_34 : decode cX7_addWord 34 = .ok (.iaload, 1) := by decide +kernel
theorem dX7_addWord_35 : decode cX7_addWord 35 = .ok (.bipush 6, 2) := by decide +kernel
theorem dX7_addWord_37 : decode cX7_addWord 37 = .ok (.if_icmp .ne 9, 3) := by decide +kernel
theorem dX7_addWord_40 : decode cX7_addWord 40 = .ok (.aload_n 0, 1) := by decide +kernel
theorem dX7_addWord_41 : decode cX7_addWord 41 = .ok (.iconst 3, 1) := by decide +kernel
theorem dX7_addWord_42 : decode cX7_addWord 42 = .ok (.invokevirtual 69, 3) := by decide +kernel
theorem dX7_addWord_45 : decode cX7_addWord 45 = .ok (.ireturn, 1) := by decide +kernel
theorem dX7_addWord_46 : decode cX7_addWord 46 = .ok (.aload_n 0, 1) := by decide +kernel
theorem dX7_addWord_47 : decode cX7_addWord 47 = .ok (.getfield 7, 3) := by decide +kernel
theorem dX7_addWord_50 : decode cX7_addWord 50 = .ok (.iload_n 1, 1) := by decide +kernel
theorem dX7_addWord_51 : decode cX7_addWord 51 = .ok (.dup2, 1) := by decide +kernel
theorem dX7_addWord_52 : decode cX7_addWord 52 = .ok (.iaload, 1) := by decide +kernel
theorem dX7_addWord_53 : decode cX7_addWord 53 = .ok (.iconst 1, 1) := by decide +kernel
theorem dX7_addWord_54 : decode cX7_addWord 54 = .ok (.iadd, 1) := by decide +kernel
theorem dX7_addWord_55 : decode cX7_addWord 55 = .ok (.iastore, 1) := by decide +kernel
theorem dX7_addWord_56 : decode cX7_addWord 56 = .ok (.aload_n 0, 1) := by decide +kernel
theorem dX7_addWord_57 : decode cX7_addWord 57 = .ok (.getfield 13, 3) := by decide +kernel
theorem dX7_addWord_60 : decode cX7_addWord 60 = .ok (.bipush 7, 2) := by decide +kernel
theorem dX7_addWord_62 : decode cX7_addWord 62 = .ok (.iload_n 1, 1) := by decide +kernel
theorem dX7_addWord_63 : decode cX7_addWord 63 = .ok (.imul, 1) := by decide +kernel
theorem dX7_addWord_64 : decode cX7_addWord 64 = .ok (.aload_n 0, 1) := by decide +kernel
theorem dX7_addWord_65 : decode cX7_addWord 65 = .ok (.getfield 7, 3) := by decide +kernel
theorem dX7_addWord_68 : decode cX7_addWord 68 = .ok (.iload_n 1, 1) := by decide +kernel
theorem dX7_addWord_69 : decode cX7_addWord 69 = .ok (.iaload, 1) := by decide +kernel
theorem dX7_addWord_70 : decode cX7_addWord 70 = .ok (.iadd, 1) := by decide +kernel
theorem dX7_addWord_71 : decode cX7_addWord 71 = .ok (.iload_n 2, 1) := by decide +kernel
theorem dX7_addWord_72 : decode cX7_addWord 72 = .ok (.iastore, 1) := by decide +kernel
theorem dX7_addWord_73 : decode cX7_addWord 73 = .ok (.aload_n 0, 1) := by decide +kernel
theorem dX7_addWord_74 : decode cX7_addWord 74 = .ok (.getfield 19, 3) := by decide +kernel
theorem dX7_addWord_77 : decode cX7_addWord 77 = .ok (.bipush 7, 2) := by decide +kernel
theorem dX7_addWord_79 : decode cX7_addWord 79 = .ok (.iload_n 1, 1) := by decide +kernel
theorem dX7_addWord_80 : decode cX7_addWord 80 = .ok (.imul, 1) := by decide +kernel
theorem dX7_addWord_81 : decode cX7_addWord 81 = .ok (.aload_n 0, 1) := by decide +kernel
theorem dX7_addWord_82 : decode cX7_addWord 82 = .ok (.getfield 7, 3) := by decide +kernel
theorem dX7_addWord_85 : decode cX7_addWord 85 = .ok (.iload_n 1, 1) := by decide +kernel
theorem dX7_addWord_86 : decode cX7_addWord 86 = .ok (.iaload, 1) := by decide +kernel
theorem dX7_addWord_87 : decode cX7_addWord 87 = .ok (.iadd, 1) := by decide +kernel
theorem dX7_addWord_88 : decode cX7_addWord 88 = .ok (.iconst (-1), 1) := by decide +kernel
theorem dX7_addWord_89 : decode cX7_addWord 89 = .ok (.iastore, 1) := by decide +kernel
theorem dX7_addWord_90 : decode cX7_addWord 90 = .ok (.aload_n 0, 1) := by decide +kernel
theorem dX7_addWord_91 : decode cX7_addWord 91 = .ok (.invokevirtual 73, 3) := by decide +kernel
theorem dX7_addWord_94 : decode cX7_addWord 94 = .ok (.aload_n 0, 1) := by decide +kernel
theorem dX7_addWord_95 : decode cX7_addWord 95 = .ok (.getfield 7, 3) := by decide +kernel
theorem dX7_addWord_98 : decode cX7_addWord 98 = .ok (.iload_n 1, 1) := by decide +kernel
theorem dX7_addWord_99 : decode cX7_addWord 99 = .ok (.iaload, 1) := by decide +kernel
theorem dX7_addWord_100 : decode cX7_addWord 100 = .ok (.ireturn, 1) := by decide +kernel
theorem dX7_sentences_0 : decode cX7_sentences 0 = .ok (.aload_n 0, 1) := by decide +kernel
theorem dX7_sentences_1 : decode cX7_sentences 1 = .ok (.iconst 0, 1) := by decide +kernel
theorem dX7_sentences_2 : decode cX7_sentences 2 = .ok (.putfield 55, 3) := by decide +kernel
theorem dX7_sentences_5 : decode cX7_sentences 5 = .ok (.aload_n 0, 1) := by decide +kernel
theorem dX7_sentences_6 : decode cX7_sentences 6 = .ok (.getfield 58, 3) := by decide +kernel
theorem dX7_sentences_9 : decode cX7_sentences 9 = .ok (.ireturn, 1) := by decide +kernel
set_option maxRecDepth 20000 in
theorem ggX7_words_X7_isSentence : GoodIn wsX7_words wsX7_isSentence := goodIn_r _ [6, 7, 13, 14, 15, 16, 17, 18, 19, 20, 21, 22, 23, 24, 25, 26, 27, 28, 29, 30, 31, 32] (by decide +kernel) (by decide +kernel)
set_option maxRecDepth 20000 in
theorem gX7_words_X7_isSentence : GoodIn wsX7_words (wsV RX7 61 RX7 yX7_isSentence wsX7_isSentence) := goodIn_app (goodIn_of _ (by decide +kernel)) ggX7_words_X7_isSentence
set_option maxRecDepth 20000 in
theorem ggX7_words_X7_asks : GoodIn wsX7_words wsX7_asks := goodIn_r _ [11, 12, 13, 14, 15, 16, 17, 18, 19, 20, 21, 22, 23, 24, 25, 26, 27, 28, 29, 30, 31, 32] (by decide +kernel) (by decide +kernel)
set_option maxRecDepth 20000 in
theorem gX7_words_X7_asks : GoodIn wsX7_words (wsV RX7 65 RX7 yX7_asks wsX7_asks) := goodIn_app (goodIn_of _ (by decide +kernel)) ggX7_words_X7_asks
theorem dX7_words_0 : decode cX7_words 0 = .ok (.aload_n 0, 1) := by decide +kernel
theorem dX7_words_1 : decode cX7_words 1 = .ok (.aload_n 0, 1) := by decide +kernel
theorem dX7_words_2 : decode cX7_words 2 = .ok (.iload_n 1, 1) := by decide +kernel
theorem dX7_words_3 : decode cX7_words 3 = .ok (.invokevirtual 61, 3) := by decide +kernel
theorem dX7_words_6 : decode cX7_words 6 = .ok (.invokevirtual 65, 3) := by decide +kernel
theorem dX7_words_9 : decode cX7_words 9 = .ok (.ifCond .eq 12, 3) := by decide +kernel
theorem dX7_words_12 : decode cX7_words 12 = .ok (.aload_n 0, 1) := by decide +kernel
theorem dX7_words_13 : decode cX7_words 13 = .ok (.getfield 7, 3) := by decide +kernel
theorem dX7_words_16 : decode cX7_words 16 = .ok (.iload_n 1, 1) := by decide +kernel
theorem dX7_words_17 : decode cX7_words 17 = .ok (.iaload, 1) := by decide +kernel
theorem dX7_words_18 : decode cX7_words 18 = .ok (.goto 4, 3) := by decide +kernel
theorem dX7_words_21 : decode cX7_words 21 = .ok (.iconst 0, 1) := by decide +kernel
theorem dX7_words_22 : decode cX7_words 22 = .ok (.ireturn, 1) := by decide +kernel
set_option maxRecDepth 20000 in
theorem ggX7_kind_X7_isWord : GoodIn wsX7_kind wsX7_isWord := goodIn_r _ [6, 7, 8, 9, 10, 5, 11, 12, 18, 19, 20, 21, 22, 23, 24, 25, 26, 27, 28, 29, 30, 31, 32, 33, 34, 35, 36, 37] (by decide +kernel) (by decide +kernel)
set_option maxRecDepth 20000 in
theorem gX7_kind_X7_isWord : GoodIn wsX7_kind (wsV RX7 76 RX7 yX7_isWord wsX7_isWord) := goodIn_app (goodIn_of _ (by decide +kernel)) ggX7_kind_X7_isWord
set_option maxRecDepth 20000 in
theorem ggX7_kind_X7_asks : GoodIn wsX7_kind wsX7_asks := goodIn_r _ [16, 17, 18, 19, 20, 21, 22, 23, 24, 25, 26, 27, 28, 29, 30, 31, 32, 33, 34, 35, 36, 37] (by decide +kernel) (by decide +kernel)
set_option maxRecDepth 20000 in
theorem gX7_kind_X7_asks : GoodIn wsX7_kind (wsV RX7 65 RX7 yX7_asks wsX7_asks) := goodIn_app (goodIn_of _ (by decide +kernel)) ggX7_kind_X7_asks
theorem dX7_kind_0 : decode cX7_kind 0 = .ok (.aload_n 0, 1) := by decide +kernel
theorem dX7_kind_1 : decode cX7_kind 1 = .ok (.aload_n 0, 1) := by decide +kernel
theorem dX7_kind_2 : decode cX7_kind 2 = .ok (.iload_n 1, 1) := by decide +kernel
theorem dX7_kind_3 : decode cX7_kind 3 = .ok (.iload_n 2, 1) := by decide +kernel
theorem dX7_kind_4 : decode cX7_kind 4 = .ok (.invokevirtual 76, 3) := by decide +kernel
theorem dX7_kind_7 : decode cX7_kind 7 = .ok (.invokevirtual 65, 3) := by decide +kernel
theorem dX7_kind_10 : decode cX7_kind 10 = .ok (.ifCond .eq 17, 3) := by decide +kernel
theorem dX7_kind_13 : decode cX7_kind 13 = .ok (.aload_n 0, 1) := by decide +kernel
theorem dX7_kind_14 : decode cX7_kind 14 = .ok (.getfield 13, 3) := by decide +kernel
theorem dX7_kind_17 : decode cX7_kind 17 = .ok (.bipush 7, 2) := by decide +kernel
theorem dX7_kind_19 : decode cX7_kind 19 = .ok (.iload_n 1, 1) := by decide +kernel
theorem dX7_kind_20 : decode cX7_kind 20 = .ok (.imul, 1) := by decide +kernel
theorem dX7_kind_21 : decode cX7_kind 21 = .ok (.iload_n 2, 1) := by decide +kernel
theorem dX7_kind_22 : decode cX7_kind 22 = .ok (.iadd, 1) := by decide +kernel
theorem dX7_kind_23 : decode cX7_kind 23 = .ok (.iaload, 1) := by decide +kernel
theorem dX7_kind_24 : decode cX7_kind 24 = .ok (.goto 4, 3) := by decide +kernel
theorem dX7_kind_27 : decode cX7_kind 27 = .ok (.iconst 0, 1) := by decide +kernel
theorem dX7_kind_28 : decode cX7_kind 28 = .ok (.ireturn, 1) := by decide +kernel
theorem dX7_remembers_0 : decode cX7_remembers 0 = .ok (.aload_n 0, 1) := by decide +kernel
theorem dX7_remembers_1 : decode cX7_remembers 1 = .ok (.getfield 80, 3) := by decide +kernel
theorem dX7_remembers_4 : decode cX7_remembers 4 = .ok (.aload_n 0, 1) := by decide +kernel
theorem dX7_remembers_5 : decode cX7_remembers 5 = .ok (.getfield 83, 3) := by decide +kernel
theorem dX7_remembers_8 : decode cX7_remembers 8 = .ok (.iadd, 1) := by decide +kernel
theorem dX7_remembers_9 : decode cX7_remembers 9 = .ok (.bipush 20, 2) := by decide +kernel
theorem dX7_remembers_11 : decode cX7_remembers 11 = .ok (.irem, 1) := by decide +kernel
theorem dX7_remembers_12 : decode cX7_remembers 12 = .ok (.istore_n 2, 1) := by decide +kernel
theorem dX7_remembers_13 : decode cX7_remembers 13 = .ok (.aload_n 0, 1) := by decide +kernel
theorem dX7_remembers_14 : decode cX7_remembers 14 = .ok (.getfield 29, 3) := by decide +kernel
theorem dX7_remembers_17 : decode cX7_remembers 17 = .ok (.iload_n 2, 1) := by decide +kernel
theorem dX7_remembers_18 : decode cX7_remembers 18 = .ok (.iload_n 1, 1) := by decide +kernel
theorem dX7_remembers_19 : decode cX7_remembers 19 = .ok (.iastore, 1) := by decide +kernel
theorem dX7_remembers_20 : decode cX7_remembers 20 = .ok (.iconst 0, 1) := by decide +kernel
theorem dX7_remembers_21 : decode cX7_remembers 21 = .ok (.istore_n 3, 1) := by decide +kernel
theorem dX7_remembers_22 : decode cX7_remembers 22 = .ok (.iload_n 3, 1) := by decide +kernel
theorem dX7_remembers_23 : decode cX7_remembers 23 = .ok (.bipush 28, 2) := by decide +kernel
theorem dX7_remembers_25 : decode cX7_remembers 25 = .ok (.if_icmp .ge 26, 3) := by decide +kernel
theorem dX7_remembers_28 : decode cX7_remembers 28 = .ok (.aload_n 0, 1) := by decide +kernel
theorem dX7_remembers_29 : decode cX7_remembers 29 = .ok (.getfield 32, 3) := by decide +kernel
theorem dX7_remembers_32 : decode cX7_remembers 32 = .ok (.bipush 28, 2) := by decide +kernel
theorem dX7_remembers_34 : decode cX7_remembers 34 = .ok (.iload_n 2, 1) := by decide +kernel
theorem dX7_remembers_35 : decode cX7_remembers 35 = .ok (.imul, 1) := by decide +kernel
theorem dX7_remembers_36 : decode cX7_remembers 36 = .ok (.iload_n 3, 1) := by decide +kernel
theorem dX7_remembers_37 : decode cX7_remembers 37 = .ok (.iadd, 1) := by decide +kernel
theorem dX7_remembers_38 : decode cX7_remembers 38 = .ok (.aload_n 0, 1) := by decide +kernel
theorem dX7_remembers_39 : decode cX7_remembers 39 = .ok (.getfield 22, 3) := by decide +kernel
theorem dX7_remembers_42 : decode cX7_remembers 42 = .ok (.iload_n 3, 1) := by decide +kernel
theorem dX7_remembers_43 : decode cX7_remembers 43 = .ok (.iaload, 1) := by decide +kernel
theorem dX7_remembers_44 : decode cX7_remembers 44 = .ok (.iastore, 1) := by decide +kernel
theorem dX7_remembers_45 : decode cX7_remembers 45 = .ok (.iinc 3 1, 3) := by decide +kernel
theorem dX7_remembers_48 : decode cX7_remembers 48 = .ok (.goto (-26), 3) := by decide +kernel
theorem dX7_remembers_51 : decode cX7_remembers 51 = .ok (.aload_n 0, 1) := by decide +kernel
theorem dX7_remembers_52 : decode cX7_remembers 52 = .ok (.aload_n 0, 1) := by decide +kernel
theorem dX7_remembers_53 : decode cX7_remembers 53 = .ok (.getfield 83, 3) := by decide +kernel
theorem dX7_remembers_56 : decode cX7_remembers 56 = .ok (.bipush 20, 2) := by decide +kernel
theorem dX7_remembers_58 : decode cX7_remembers 58 = .ok (.if_icmp .ge 10, 3) := by decide +kernel
theorem dX7_remembers_61 : decode cX7_remembers 61 = .ok (.aload_n 0, 1) := by decide +kernel
theorem dX7_remembers_62 : decode cX7_remembers 62 = .ok (.getfield 80, 3) := by decide +kernel
theorem dX7_remembers_65 : decode cX7_remembers 65 = .ok (.goto 12, 3) := by decide +kernel
theorem dX7_remembers_68 : decode cX7_remembers 68 = .ok (.aload_n 0, 1) := by decide +kernel
theorem dX7_remembers_69 : decode cX7_remembers 69 = .ok (.getfield 80, 3) := by decide +kernel
theorem dX7_remembers_72 : decode cX7_remembers 72 = .ok (.iconst 1, 1) := by decide +kernel
theorem dX7_remembers_73 : decode cX7_remembers 73 = .ok (.iadd, 1) := by decide +kernel
theorem dX7_remembers_74 : decode cX7_remembers 74 = .ok (.bipush 20, 2) := by decide +kernel
theorem dX7_remembers_76 : decode cX7_remembers 76 = .ok (.irem, 1) := by decide +kernel
theorem dX7_remembers_77 : decode cX7_remembers 77 = .ok (.putfield 80, 3) := by decide +kernel
theorem dX7_remembers_80 : decode cX7_remembers 80 = .ok (.aload_n 0, 1) := by decide +kernel
theorem dX7_remembers_81 : decode cX7_remembers 81 = .ok (.dup, 1) := by decide +kernel
theorem dX7_remembers_82 : decode cX7_remembers 82 = .ok (.getfield 83, 3) := by decide +kernel
theorem dX7_remembers_85 : decode cX7_remembers 85 = .ok (.aload_n 0, 1) := by decide +kernel
theorem dX7_remembers_86 : decode cX7_remembers 86 = .ok (.getfield 83, 3) := by decide +kernel
theorem dX7_remembers_89 : decode cX7_remembers 89 = .ok (.bipush 20, 2) := by decide +kernel
theorem dX7_remembers_91 : decode cX7_remembers 91 = .ok (.if_icmp .ge 7, 3) := by decide +kernel
theorem dX7_remembers_94 : decode cX7_remembers 94 = .ok (.iconst 1, 1) := by decide +kernel
theorem dX7_remembers_95 : decode cX7_remembers 95 = .ok (.goto 4, 3) := by decide +kernel
theorem dX7_remembers_98 : decode cX7_remembers 98 = .ok (.iconst 0, 1) := by decide +kernel
theorem dX7_remembers_99 : decode cX7_remembers 99 = .ok (.iadd, 1) := by decide +kernel
theorem dX7_remembers_100 : decode cX7_remembers 100 = .ok (.putfield 83, 3) := by decide +kernel
theorem dX7_remembers_103 : decode cX7_remembers 103 = .ok (.return_, 1) := by decide +kernel
set_option maxRecDepth 20000 in
theorem ggX7_setWeight_X7_asks : GoodIn wsX7_setWeight wsX7_asks := goodIn_r _ [6, 7, 26, 27, 28, 29, 30, 31, 32, 33, 34, 35, 36, 37, 38, 39, 40, 41, 42, 43, 44, 45] (by decide +kernel) (by decide +kernel)
set_option maxRecDepth 20000 in
theorem gX7_setWeight_X7_asks : GoodIn wsX7_setWeight (wsV RX7 65 RX7 yX7_asks wsX7_asks) := goodIn_app (goodIn_of _ (by decide +kernel)) ggX7_setWeight_X7_asks
set_option maxRecDepth 20000 in
theorem ggX7_setWeight_X7_fails : GoodIn wsX7_setWeight wsX7_fails := goodIn_r _ [11, 7, 26, 27, 28, 29, 30, 31, 32, 33, 34, 35, 36, 37, 38, 39, 40, 41, 42, 43, 44, 45] (by decide +kernel) (by decide +kernel)
set_option maxRecDepth 20000 in
theorem gX7_setWeight_X7_fails : GoodIn wsX7_setWeight (wsV RX7 69 RX7 yX7_fails wsX7_fails) := goodIn_app (goodIn_of _ (by decide +kernel)) ggX7_setWeight_X7_fails
set_option maxRecDepth 20000 in
theorem ggX7_setWeight_X7_remembers : GoodIn wsX7_setWeight wsX7_remembers := goodIn_r _ [15, 16, 17, 18, 19, 1, 26, 27, 28, 29, 30, 31, 32, 33, 34, 35, 36, 37, 38, 39, 40, 41, 42, 43, 44, 45] (by decide +kernel) (by decide +kernel)
set_option maxRecDepth 20000 in
theorem gX7_setWeight_X7_remembers : GoodIn wsX7_setWeight (wsV RX7 86 RX7 yX7_remembers wsX7_remembers) := goodIn_app (goodIn_of _ (by decide +kernel)) ggX7_setWeight_X7_remembers
set_option maxRecDepth 20000 in
theorem ggX7_setWeight_X7_changed : GoodIn wsX7_setWeight wsX7_changed := goodIn_r _ [23, 24, 25, 26, 27, 28, 29, 30, 31, 32, 33, 34, 35, 36, 37, 38, 39, 40, 41, 42, 43, 44, 45] (by decide +kernel) (by decide +kernel)
set_option maxRecDepth 20000 in
theorem gX7_setWeight_X7_changed : GoodIn wsX7_setWeight (wsV RX7 73 RX7 yX7_changed wsX7_changed) := goodIn_app (goodIn_of _ (by decide +kernel)) ggX7_setWeight_X7_changed
theorem dX7_setWeight_0 : decode cX7_setWeight 0 = .ok (.aload_n 0, 1) := by decide +kernel
theorem dX7_setWeight_1 : decode cX7_setWeight 1 = .ok (.iload_n 1, 1) := by decide +kernel
theorem dX7_setWeight_2 : decode cX7_setWeight 2 = .ok (.ifCond .lt 13, 3) := by decide +kernel
theorem dX7_setWeight_5 : decode cX7_setWeight 5 = .ok (.iload_n 1, 1) := by decide +kernel
theorem dX7_setWeight_6 : decode cX7_setWeight 6 = .ok (.bipush 28, 2) := by decide +kernel
theorem dX7_setWeight_8 : decode cX7_setWeight 8 = .ok (.if_icmp .ge 7, 3) := by decide +kernel
theorem dX7_setWeight_11 : decode cX7_setWeight 11 = .ok (.iconst 1, 1) := by decide +kernel
theorem dX7_setWeight_12 : decode cX7_setWeight 12 = .ok (.goto 4, 3) := by decide +kernel
theorem dX7_setWeight_15 : decode cX7_setWeight 15 = .ok (.iconst 0, 1) := by decide +kernel
theorem dX7_setWeight_16 : decode cX7_setWeight 16 = .ok (.invokevirtual 65, 3) := by decide +kernel
theorem dX7_setWeight_19 : decode cX7_setWeight 19 = .ok (.ifCond .ne 5, 3) := by decide +kernel
theorem dX7_setWeight_22 : decode cX7_setWeight 22 = .ok (.iconst 0, 1) := by decide +kernel
theorem dX7_setWeight_23 : decode cX7_setWeight 23 = .ok (.ireturn, 1) := by decide +kernel
theorem dX7_setWeight_24 : decode cX7_setWeight 24 = .ok (.iload_n 2, 1) := by decide +kernel
theorem dX7_setWeight_25 : decode cX7_setWeight 25 = .ok (.bipush (-100), 2) := by decide +kernel
theorem dX7_setWeight_27 : decode cX7_setWeight 27 = .ok (.if_icmp .lt 9, 3) := by decide +kernel
theorem dX7_setWeight_30 : decode cX7_setWeight 30 = .ok (.iload_n 2, 1) := by decide +kernel
theorem dX7_setWeight_31 : decode cX7_setWeight 31 = .ok (.bipush 100, 2) := by decide +kernel
theorem dX7_setWeight_33 : decode cX7_setWeight 33 = .ok (.if_icmp .le 9, 3) := by decide +kernel
theorem dX7_setWeight_36 : decode cX7_setWeight 36 = .ok (.aload_n 0, 1) := by decide +kernel
theorem dX7_setWeight_37 : decode cX7_setWeight 37 = .ok (.iconst 2, 1) := by decide +kernel
theorem dX7_setWeight_38 : decode cX7_setWeight 38 = .ok (.invokevirtual 69, 3) := by decide +kernel
theorem dX7_setWeight_41 : decode cX7_setWeight 41 = .ok (.ireturn, 1) := by decide +kernel
theorem dX7_setWeight_42 : decode cX7_setWeight 42 = .ok (.aload_n 0, 1) := by decide +kernel
theorem dX7_setWeight_43 : decode cX7_setWeight 43 = .ok (.iload_n 1, 1) := by decide +kernel
theorem dX7_setWeight_44 : decode cX7_setWeight 44 = .ok (.invokevirtual 86, 3) := by decide +kernel
theorem dX7_setWeight_47 : decode cX7_setWeight 47 = .ok (.aload_n 0, 1) := by decide +kernel
theorem dX7_setWeight_48 : decode cX7_setWeight 48 = .ok (.getfield 22, 3) := by decide +kernel
theorem dX7_setWeight_51 : decode cX7_setWeight 51 = .ok (.iload_n 1, 1) := by decide +kernel
theorem dX7_setWeight_52 : decode cX7_setWeight 52 = .ok (.iaload, 1) := by decide +kernel
theorem dX7_setWeight_53 : decode cX7_setWeight 53 = .ok (.istore_n 3, 1) := by decide +kernel
theorem dX7_setWeight_54 : decode cX7_setWeight 54 = .ok (.aload_n 0, 1) := by decide +kernel
theorem dX7_setWeight_55 : decode cX7_setWeight 55 = .ok (.getfield 22, 3) := by decide +kernel
theorem dX7_setWeight_58 : decode cX7_setWeight 58 = .ok (.iload_n 1, 1) := by decide +kernel
theorem dX7_setWeight_59 : decode cX7_setWeight 59 = .ok (.iload_n 2, 1) := by decide +kernel
theorem dX7_setWeight_60 : decode cX7_setWeight 60 = .ok (.iastore, 1) := by decide +kernel
theorem dX7_setWeight_61 : decode cX7_setWeight 61 = .ok (.aload_n 0, 1) := by decide +kernel
theorem dX7_setWeight_62 : decode cX7_setWeight 62 = .ok (.invokevirtual 73, 3) := by decide +kernel
theorem dX7_setWeight_65 : decode cX7_setWeight 65 = .ok (.iload_n 3, 1) := by decide +kernel
theorem dX7_setWeight_66 : decode cX7_setWeight 66 = .ok (.ireturn, 1) := by decide +kernel
set_option maxRecDepth 20000 in
theorem ggX7_weight_X7_asks : GoodIn wsX7_weight wsX7_asks := goodIn_r _ [6, 7, 8, 9, 10, 11, 12, 13, 14, 15, 16, 17, 18, 19, 20, 21, 22, 23, 24, 25, 26, 27] (by decide +kernel) (by decide +kernel)
set_option maxRecDepth 20000 in
theorem gX7_weight_X7_asks : GoodIn wsX7_weight (wsV RX7 65 RX7 yX7_asks wsX7_asks) := goodIn_app (goodIn_of _ (by decide +kernel)) ggX7_weight_X7_asks
theorem dX7_weight_0 : decode cX7_weight 0 = .ok (.aload_n 0, 1) := by decide +kernel
theorem dX7_weight_1 : decode cX7_weight 1 = .ok (.iload_n 1, 1) := by decide +kernel
theorem dX7_weight_2 : decode cX7_weight 2 = .ok (.ifCond .lt 13, 3) := by decide +kernel
theorem dX7_weight_5 : decode cX7_weight 5 = .ok (.iload_n 1, 1) := by decide +kernel
theorem dX7_weight_6 : decode cX7_weight 6 = .ok (.bipush 28, 2) := by decide +kernel
theorem dX7_weight_8 : decode cX7_weight 8 = .ok (.if_icmp .ge 7, 3) := by decide +kernel
theorem dX7_weight_11 : decode cX7_weight 11 = .ok (.iconst 1, 1) := by decide +kernel
theorem dX7_weight_12 : decode cX7_weight 12 = .ok (.goto 4, 3) := by decide +kernel
theorem dX7_weight_15 : decode cX7_weight 15 = .ok (.iconst 0, 1) := by decide +kernel
theorem dX7_weight_16 : decode cX7_weight 16 = .ok (.invokevirtual 65, 3) := by decide +kernel
theorem dX7_weight_19 : decode cX7_weight 19 = .ok (.ifCond .eq 12, 3) := by decide +kernel
theorem dX7_weight_22 : decode cX7_weight 22 = .ok (.aload_n 0, 1) := by decide +kernel
theorem dX7_weight_23 : decode cX7_weight 23 = .ok (.getfield 22, 3) := by decide +kernel
theorem dX7_weight_26 : decode cX7_weight 26 = .ok (.iload_n 1, 1) := by decide +kernel
theorem dX7_weight_27 : decode cX7_weight 27 = .ok (.iaload, 1) := by decide +kernel
theorem dX7_weight_28 : decode cX7_weight 28 = .ok (.goto 4, 3) := by decide +kernel
theorem dX7_weight_31 : decode cX7_weight 31 = .ok (.iconst 0, 1) := by decide +kernel
theorem dX7_weight_32 : decode cX7_weight 32 = .ok (.ireturn, 1) := by decide +kernel
theorem dX7_byKind_0 : decode cX7_byKind 0 = .ok (.iconst 4, 1) := by decide +kernel
theorem dX7_byKind_1 : decode cX7_byKind 1 = .ok (.iload_n 2, 1) := by decide +kernel
theorem dX7_byKind_2 : decode cX7_byKind 2 = .ok (.ifCond .ne 7, 3) := by decide +kernel
theorem dX7_byKind_5 : decode cX7_byKind 5 = .ok (.iconst 4, 1) := by decide +kernel
theorem dX7_byKind_6 : decode cX7_byKind 6 = .ok (.goto 14, 3) := by decide +kernel
theorem dX7_byKind_9 : decode cX7_byKind 9 = .ok (.aload_n 0, 1) := by decide +kernel
theorem dX7_byKind_10 : decode cX7_byKind 10 = .ok (.getfield 13, 3) := by decide +kernel
theorem dX7_byKind_13 : decode cX7_byKind 13 = .ok (.bipush 7, 2) := by decide +kernel
theorem dX7_byKind_15 : decode cX7_byKind 15 = .ok (.iload_n 1, 1) := by decide +kernel
theorem dX7_byKind_16 : decode cX7_byKind 16 = .ok (.imul, 1) := by decide +kernel
theorem dX7_byKind_17 : decode cX7_byKind 17 = .ok (.iload_n 2, 1) := by decide +kernel
theorem dX7_byKind_18 : decode cX7_byKind 18 = .ok (.iadd, 1) := by decide +kernel
theorem dX7_byKind_19 : decode cX7_byKind 19 = .ok (.iaload, 1) := by decide +kernel
theorem dX7_byKind_20 : decode cX7_byKind 20 = .ok (.imul, 1) := by decide +kernel
theorem dX7_byKind_21 : decode cX7_byKind 21 = .ok (.aload_n 0, 1) := by decide +kernel
theorem dX7_byKind_22 : decode cX7_byKind 22 = .ok (.getfield 13, 3) := by decide +kernel
theorem dX7_byKind_25 : decode cX7_byKind 25 = .ok (.bipush 7, 2) := by decide +kernel
theorem dX7_byKind_27 : decode cX7_byKind 27 = .ok (.iload_n 1, 1) := by decide +kernel
theorem dX7_byKind_28 : decode cX7_byKind 28 = .ok (.imul, 1) := by decide +kernel
theorem dX7_byKind_29 : decode cX7_byKind 29 = .ok (.iload_n 3, 1) := by decide +kernel
theorem dX7_byKind_30 : decode cX7_byKind 30 = .ok (.iadd, 1) := by decide +kernel
theorem dX7_byKind_31 : decode cX7_byKind 31 = .ok (.iaload, 1) := by decide +kernel
theorem dX7_byKind_32 : decode cX7_byKind 32 = .ok (.iadd, 1) := by decide +kernel
theorem dX7_byKind_33 : decode cX7_byKind 33 = .ok (.ireturn, 1) := by decide +kernel
theorem dX7_byDistance_0 : decode cX7_byDistance 0 = .ok (.iload_n 0, 1) := by decide +kernel
theorem dX7_byDistance_1 : decode cX7_byDistance 1 = .ok (.iload_n 1, 1) := by decide +kernel
theorem dX7_byDistance_2 : decode cX7_byDistance 2 = .ok (.if_icmp .le 9, 3) := by decide +kernel
theorem dX7_byDistance_5 : decode cX7_byDistance 5 = .ok (.iload_n 0, 1) := by decide +kernel
theorem dX7_byDistance_6 : decode cX7_byDistance 6 = .ok (.iload_n 1, 1) := by decide +kernel
theorem dX7_byDistance_7 : decode cX7_byDistance 7 = .ok (.isub, 1) := by decide +kernel
theorem dX7_byDistance_8 : decode cX7_byDistance 8 = .ok (.goto 6, 3) := by decide +kernel
theorem dX7_byDistance_11 : decode cX7_byDistance 11 = .ok (.iload_n 1, 1) := by decide +kernel
theorem dX7_byDistance_12 : decode cX7_byDistance 12 = .ok (.iload_n 0, 1) := by decide +kernel
theorem dX7_byDistance_13 : decode cX7_byDistance 13 = .ok (.isub, 1) := by decide +kernel
theorem dX7_byDistance_14 : decode cX7_byDistance 14 = .ok (.istore_n 2, 1) := by decide +kernel
theorem dX7_byDistance_15 : decode cX7_byDistance 15 = .ok (.bipush 18, 2) := by decide +kernel
theorem dX7_byDistance_17 : decode cX7_byDistance 17 = .ok (.iconst 2, 1) := by decide +kernel
theorem dX7_byDistance_18 : decode cX7_byDistance 18 = .ok (.iload_n 2, 1) := by decide +kernel
theorem dX7_byDistance_19 : decode cX7_byDistance 19 = .ok (.iconst 4, 1) := by decide +kernel
theorem dX7_byDistance_20 : decode cX7_byDistance 20 = .ok (.if_icmp .ge 7, 3) := by decide +kernel
theorem dX7_byDistance_23 : decode cX7_byDistance 23 = .ok (.iload_n 2, 1) := by decide +kernel
theorem dX7_byDistance_24 : decode cX7_byDistance 24 = .ok (.goto 4, 3) := by decide +kernel
theorem dX7_byDistance_27 : decode cX7_byDistance 27 = .ok (.iconst 4, 1) := by decide +kernel
theorem dX7_byDistance_28 : decode cX7_byDistance 28 = .ok (.imul, 1) := by decide +kernel
theorem dX7_byDistance_29 : decode cX7_byDistance 29 = .ok (.iadd, 1) := by decide +kernel
theorem dX7_byDistance_30 : decode cX7_byDistance 30 = .ok (.iload_n 0, 1) := by decide +kernel
theorem dX7_byDistance_31 : decode cX7_byDistance 31 = .ok (.iload_n 1, 1) := by decide +kernel
theorem dX7_byDistance_32 : decode cX7_byDistance 32 = .ok (.if_icmp .le 7, 3) := by decide +kernel
theorem dX7_byDistance_35 : decode cX7_byDistance 35 = .ok (.iconst 1, 1) := by decide +kernel
theorem dX7_byDistance_36 : decode cX7_byDistance 36 = .ok (.goto 4, 3) := by decide +kernel
theorem dX7_byDistance_39 : decode cX7_byDistance 39 = .ok (.iconst 0, 1) := by decide +kernel
theorem dX7_byDistance_40 : decode cX7_byDistance 40 = .ok (.iadd, 1) := by decide +kernel
theorem dX7_byDistance_41 : decode cX7_byDistance 41 = .ok (.ireturn, 1) := by decide +kernel
set_option maxRecDepth 20000 in
theorem ggX7_scoreOf_X7_byKind : GoodIn wsX7_scoreOf wsX7_byKind := goodIn_r _ [6, 7, 11, 12, 13, 14, 15, 16, 17, 18, 19, 20, 21, 22, 23, 24, 25, 26, 27, 28, 29, 30] (by decide +kernel) (by decide +kernel)
set_option maxRecDepth 20000 in
theorem gX7_scoreOf_X7_byKind : GoodIn wsX7_scoreOf (wsV RX7 90 RX7 yX7_byKind wsX7_byKind) := goodIn_app (goodIn_of _ (by decide +kernel)) ggX7_scoreOf_X7_byKind
set_option maxRecDepth 20000 in
theorem ggX7_scoreOf_X7_byDistance : GoodIn wsX7_scoreOf wsX7_byDistance := goodIn_r _ [10] (by decide +kernel) (by decide +kernel)
set_option maxRecDepth 20000 in
theorem gX7_scoreOf_X7_byDistance : GoodIn wsX7_scoreOf (va_wsS RX7 94 yX7_byDistance wsX7_byDistance) := goodIn_app (goodIn_of _ (by decide +kernel)) ggX7_scoreOf_X7_byDistance
theorem dX7_scoreOf_0 : decode cX7_scoreOf 0 = .ok (.aload_n 0, 1) := by decide +kernel
theorem dX7_scoreOf_1 : decode cX7_scoreOf 1 = .ok (.getfield 22, 3) := by decide +kernel
theorem dX7_scoreOf_4 : decode cX7_scoreOf 4 = .ok (.aload_n 0, 1) := by decide +kernel
theorem dX7_scoreOf_5 : decode cX7_scoreOf 5 = .ok (.iload_n 1, 1) := by decide +kernel
theorem dX7_scoreOf_6 : decode cX7_scoreOf 6 = .ok (.iload_n 2, 1) := by decide +kernel
theorem dX7_scoreOf_7 : decode cX7_scoreOf 7 = .ok (.iload_n 3, 1) := by decide +kernel
theorem dX7_scoreOf_8 : decode cX7_scoreOf 8 = .ok (.invokevirtual 90, 3) := by decide +kernel
theorem dX7_scoreOf_11 : decode cX7_scoreOf 11 = .ok (.iaload, 1) := by decide +kernel
theorem dX7_scoreOf_12 : decode cX7_scoreOf 12 = .ok (.aload_n 0, 1) := by decide +kernel
theorem dX7_scoreOf_13 : decode cX7_scoreOf 13 = .ok (.getfield 22, 3) := by decide +kernel
theorem dX7_scoreOf_16 : decode cX7_scoreOf 16 = .ok (.iload_n 2, 1) := by decide +kernel
theorem dX7_scoreOf_17 : decode cX7_scoreOf 17 = .ok (.iload_n 3, 1) := by decide +kernel
theorem dX7_scoreOf_18 : decode cX7_scoreOf 18 = .ok (.invokestatic 94, 3) := by decide +kernel
theorem dX7_scoreOf_21 : decode cX7_scoreOf 21 = .ok (.iaload, 1) := by decide +kernel
theorem dX7_scoreOf_22 : decode cX7_scoreOf 22 = .ok (.iadd, 1) := by decide +kernel
theorem dX7_scoreOf_23 : decode cX7_scoreOf 23 = .ok (.ireturn, 1) := by decide +kernel
set_option maxRecDepth 20000 in
theorem ggX7_asksArc_X7_isPlace : GoodIn wsX7_asksArc wsX7_isPlace := goodIn_r _ [6, 7, 8, 9, 10, 5, 11, 12, 17, 18, 19, 20, 21, 22, 23, 24, 25, 26, 27, 28, 29, 30, 31, 32, 33, 34, 35, 36] (by decide +kernel) (by decide +kernel)
set_option maxRecDepth 20000 in
theorem gX7_asksArc_X7_isPlace : GoodIn wsX7_asksArc (wsV RX7 98 RX7 yX7_isPlace wsX7_isPlace) := goodIn_app (goodIn_of _ (by decide +kernel)) ggX7_asksArc_X7_isPlace
set_option maxRecDepth 20000 in
theorem ggX7_asksArc_X7_isWord : GoodIn wsX7_asksArc wsX7_isWord := goodIn_r _ [16, 7, 8, 9, 10, 5, 11, 12, 17, 18, 19, 20, 21, 22, 23, 24, 25, 26, 27, 28, 29, 30, 31, 32, 33, 34, 35, 36] (by decide +kernel) (by decide +kernel)
set_option maxRecDepth 20000 in
theorem gX7_asksArc_X7_isWord : GoodIn wsX7_asksArc (wsV RX7 76 RX7 yX7_isWord wsX7_isWord) := goodIn_app (goodIn_of _ (by decide +kernel)) ggX7_asksArc_X7_isWord
theorem dX7_asksArc_0 : decode cX7_asksArc 0 = .ok (.aload_n 0, 1) := by decide +kernel
theorem dX7_asksArc_1 : decode cX7_asksArc 1 = .ok (.aload_n 0, 1) := by decide +kernel
theorem dX7_asksArc_2 : decode cX7_asksArc 2 = .ok (.iload_n 1, 1) := by decide +kernel
theorem dX7_asksArc_3 : decode cX7_asksArc 3 = .ok (.iload_n 2, 1) := by decide +kernel
theorem dX7_asksArc_4 : decode cX7_asksArc 4 = .ok (.invokevirtual 98, 3) := by decide +kernel
theorem dX7_asksArc_7 : decode cX7_asksArc 7 = .ok (.ifCond .eq 12, 3) := by decide +kernel
theorem dX7_asksArc_10 : decode cX7_asksArc 10 = .ok (.aload_n 0, 1) := by decide +kernel
theorem dX7_asksArc_11 : decode cX7_asksArc 11 = .ok (.iload_n 1, 1) := by decide +kernel
theorem dX7_asksArc_12 : decode cX7_asksArc 12 = .ok (.iload_n 3, 1) := by decide +kernel
theorem dX7_asksArc_13 : decode cX7_asksArc 13 = .ok (.invokevirtual 76, 3) := by decide +kernel
theorem dX7_asksArc_16 : decode cX7_asksArc 16 = .ok (.ifCond .ne 7, 3) := by decide +kernel
theorem dX7_asksArc_19 : decode cX7_asksArc 19 = .ok (.iconst 1, 1) := by decide +kernel
theorem dX7_asksArc_20 : decode cX7_asksArc 20 = .ok (.goto 13, 3) := by decide +kernel
theorem dX7_asksArc_23 : decode cX7_asksArc 23 = .ok (.iload_n 2, 1) := by decide +kernel
theorem dX7_asksArc_24 : decode cX7_asksArc 24 = .ok (.iload_n 3, 1) := by decide +kernel
theorem dX7_asksArc_25 : decode cX7_asksArc 25 = .ok (.if_icmp .ne 7, 3) := by decide +kernel
theorem dX7_asksArc_28 : decode cX7_asksArc 28 = .ok (.iconst 2, 1) := by decide +kernel
theorem dX7_asksArc_29 : decode cX7_asksArc 29 = .ok (.goto 4, 3) := by decide +kernel
theorem dX7_asksArc_32 : decode cX7_asksArc 32 = .ok (.iconst 0, 1) := by decide +kernel
theorem dX7_asksArc_33 : decode cX7_asksArc 33 = .ok (.putfield 55, 3) := by decide +kernel
theorem dX7_asksArc_36 : decode cX7_asksArc 36 = .ok (.aload_n 0, 1) := by decide +kernel
theorem dX7_asksArc_37 : decode cX7_asksArc 37 = .ok (.getfield 55, 3) := by decide +kernel
theorem dX7_asksArc_40 : decode cX7_asksArc 40 = .ok (.ifCond .ne 7, 3) := by decide +kernel
theorem dX7_asksArc_43 : decode cX7_asksArc 43 = .ok (.iconst 1, 1) := by decide +kernel
theorem dX7_asksArc_44 : decode cX7_asksArc 44 = .ok (.goto 4, 3) := by decide +kernel
theorem dX7_asksArc_47 : decode cX7_asksArc 47 = .ok (.iconst 0, 1) := by decide +kernel
theorem dX7_asksArc_48 : decode cX7_asksArc 48 = .ok (.ireturn, 1) := by decide +kernel
set_option maxRecDepth 20000 in
theorem ggX7_feature_X7_asksArc : GoodIn wsX7_feature wsX7_asksArc := goodIn_r _ [5, 6, 7, 8, 9, 4, 10, 11, 12, 13, 14, 15, 16, 17, 18, 19, 20, 29, 30, 31, 32, 33, 34, 35, 36, 37, 38, 39, 40, 41, 42, 43, 44, 45, 46, 47, 48] (by decide +kernel) (by decide +kernel)
set_option maxRecDepth 20000 in
theorem gX7_feature_X7_asksArc : GoodIn wsX7_feature (wsV RX7 101 RX7 yX7_asksArc wsX7_asksArc) := goodIn_app (goodIn_of _ (by decide +kernel)) ggX7_feature_X7_asksArc
set_option maxRecDepth 20000 in
theorem ggX7_feature_X7_byDistance : GoodIn wsX7_feature wsX7_byDistance := goodIn_r _ [23] (by decide +kernel) (by decide +kernel)
set_option maxRecDepth 20000 in
theorem gX7_feature_X7_byDistance : GoodIn wsX7_feature (va_wsS RX7 94 yX7_byDistance wsX7_byDistance) := goodIn_app (goodIn_of _ (by decide +kernel)) ggX7_feature_X7_byDistance
set_option maxRecDepth 20000 in
theorem ggX7_feature_X7_byKind : GoodIn wsX7_feature wsX7_byKind := goodIn_r _ [27, 28, 29, 30, 31, 32, 33, 34, 35, 36, 37, 38, 39, 40, 41, 42, 43, 44, 45, 46, 47, 48] (by decide +kernel) (by decide +kernel)
set_option maxRecDepth 20000 in
theorem gX7_feature_X7_byKind : GoodIn wsX7_feature (wsV RX7 90 RX7 yX7_byKind wsX7_byKind) := goodIn_app (goodIn_of _ (by decide +kernel)) ggX7_feature_X7_byKind
theorem dX7_feature_0 : decode cX7_feature 0 = .ok (.aload_n 0, 1) := by decide +kernel
theorem dX7_feature_1 : decode cX7_feature 1 = .ok (.iload_n 1, 1) := by decide +kernel
theorem dX7_feature_2 : decode cX7_feature 2 = .ok (.iload_n 2, 1) := by decide +kernel
theorem dX7_feature_3 : decode cX7_feature 3 = .ok (.iload_n 3, 1) := by decide +kernel
theorem dX7_feature_4 : decode cX7_feature 4 = .ok (.invokevirtual 101, 3) := by decide +kernel
theorem dX7_feature_7 : decode cX7_feature 7 = .ok (.ifCond .ne 7, 3) := by decide +kernel
theorem dX7_feature_10 : decode cX7_feature 10 = .ok (.iconst 0, 1) := by decide +kernel
theorem dX7_feature_11 : decode cX7_feature 11 = .ok (.goto 23, 3) := by decide +kernel
theorem dX7_feature_14 : decode cX7_feature 14 = .ok (.iload 4, 2) := by decide +kernel
theorem dX7_feature_16 : decode cX7_feature 16 = .ok (.ifCond .eq 11, 3) := by decide +kernel
theorem dX7_feature_19 : decode cX7_feature 19 = .ok (.iload_n 2, 1) := by decide +kernel
theorem dX7_feature_20 : decode cX7_feature 20 = .ok (.iload_n 3, 1) := by decide +kernel
theorem dX7_feature_21 : decode cX7_feature 21 = .ok (.invokestatic 94, 3) := by decide +kernel
theorem dX7_feature_24 : decode cX7_feature 24 = .ok (.goto 10, 3) := by decide +kernel
theorem dX7_feature_27 : decode cX7_feature 27 = .ok (.aload_n 0, 1) := by decide +kernel
theorem dX7_feature_28 : decode cX7_feature 28 = .ok (.iload_n 1, 1) := by decide +kernel
theorem dX7_feature_29 : decode cX7_feature 29 = .ok (.iload_n 2, 1) := by decide +kernel
theorem dX7_feature_30 : decode cX7_feature 30 = .ok (.iload_n 3, 1) := by decide +kernel
theorem dX7_feature_31 : decode cX7_feature 31 = .ok (.invokevirtual 90, 3) := by decide +kernel
theorem dX7_feature_34 : decode cX7_feature 34 = .ok (.ireturn, 1) := by decide +kernel
set_option maxRecDepth 20000 in
theorem ggX7_score_X7_asksArc : GoodIn wsX7_score wsX7_asksArc := goodIn_r _ [5, 6, 7, 8, 9, 4, 10, 11, 12, 13, 14, 15, 16, 17, 18, 19, 20, 34, 35, 36, 37, 38, 39, 40, 41, 42, 43, 44, 45, 46, 47, 48, 49, 50, 51, 52, 53] (by decide +kernel) (by decide +kernel)
set_option maxRecDepth 20000 in
theorem gX7_score_X7_asksArc : GoodIn wsX7_score (wsV RX7 101 RX7 yX7_asksArc wsX7_asksArc) := goodIn_app (goodIn_of _ (by decide +kernel)) ggX7_score_X7_asksArc
set_option maxRecDepth 20000 in
theorem ggX7_score_X7_scoreOf : GoodIn wsX7_score wsX7_scoreOf := goodIn_r _ [24, 25, 26, 27, 28, 4, 29, 30, 31, 32, 33, 34, 35, 36, 37, 38, 39, 40, 41, 42, 43, 44, 45, 46, 47, 48, 49, 50, 51, 52, 53] (by decide +kernel) (by decide +kernel)
set_option maxRecDepth 20000 in
theorem gX7_score_X7_scoreOf : GoodIn wsX7_score (wsV RX7 105 RX7 yX7_scoreOf wsX7_scoreOf) := goodIn_app (goodIn_of _ (by decide +kernel)) ggX7_score_X7_scoreOf
theorem dX7_score_0 : decode cX7_score 0 = .ok (.aload_n 0, 1) := by decide +kernel
theorem dX7_score_1 : decode cX7_score 1 = .ok (.iload_n 1, 1) := by decide +kernel
theorem dX7_score_2 : decode cX7_score 2 = .ok (.iload_n 2, 1) := by decide +kernel
theorem dX7_score_3 : decode cX7_score 3 = .ok (.iload_n 3, 1) := by decide +kernel
theorem dX7_score_4 : decode cX7_score 4 = .ok (.invokevirtual 101, 3) := by decide +kernel
theorem dX7_score_7 : decode cX7_score 7 = .ok (.ifCond .eq 13, 3) := by decide +kernel
theorem dX7_score_10 : decode cX7_score 10 = .ok (.aload_n 0, 1) := by decide +kernel
theorem dX7_score_11 : decode cX7_score 11 = .ok (.iload_n 1, 1) := by decide +kernel
theorem dX7_score_12 : decode cX7_score 12 = .ok (.iload_n 2, 1) := by decide +kernel
theorem dX7_score_13 : decode cX7_score 13 = .ok (.iload_n 3, 1) := by decide +kernel
theorem dX7_score_14 : decode cX7_score 14 = .ok (.invokevirtual 105, 3) := by decide +kernel
theorem dX7_score_17 : decode cX7_score 17 = .ok (.goto 4, 3) := by decide +kernel
theorem dX7_score_20 : decode cX7_score 20 = .ok (.iconst 0, 1) := by decide +kernel
theorem dX7_score_21 : decode cX7_score 21 = .ok (.ireturn, 1) := by decide +kernel
theorem dX7_arc_0 : decode cX7_arc 0 = .ok (.bipush 49, 2) := by decide +kernel
theorem dX7_arc_2 : decode cX7_arc 2 = .ok (.iload_n 1, 1) := by decide +kernel
theorem dX7_arc_3 : decode cX7_arc 3 = .ok (.imul, 1) := by decide +kernel
theorem dX7_arc_4 : decode cX7_arc 4 = .ok (.bipush 7, 2) := by decide +kernel
theorem dX7_arc_6 : decode cX7_arc 6 = .ok (.iload_n 3, 1) := by decide +kernel
theorem dX7_arc_7 : decode cX7_arc 7 = .ok (.imul, 1) := by decide +kernel
theorem dX7_arc_8 : decode cX7_arc 8 = .ok (.iadd, 1) := by decide +kernel
theorem dX7_arc_9 : decode cX7_arc 9 = .ok (.iload_n 2, 1) := by decide +kernel
theorem dX7_arc_10 : decode cX7_arc 10 = .ok (.iadd, 1) := by decide +kernel
theorem dX7_arc_11 : decode cX7_arc 11 = .ok (.ireturn, 1) := by decide +kernel
set_option maxRecDepth 20000 in
theorem ggX7_mark_X7_asksArc : GoodIn wsX7_mark wsX7_asksArc := goodIn_r _ [6, 7, 8, 9, 10, 5, 11, 12, 13, 14, 15, 16, 17, 18, 19, 20, 21, 36, 37, 38, 39, 40, 41, 42, 43, 44, 45, 46, 47, 48, 49, 50, 51, 52, 53, 54, 55] (by decide +kernel) (by decide +kernel)
set_option maxRecDepth 20000 in
theorem gX7_mark_X7_asksArc : GoodIn wsX7_mark (wsV RX7 101 RX7 yX7_asksArc wsX7_asksArc) := goodIn_app (goodIn_of _ (by decide +kernel)) ggX7_mark_X7_asksArc
set_option maxRecDepth 20000 in
theorem ggX7_mark_X7_fails : GoodIn wsX7_mark wsX7_fails := goodIn_r _ [25, 7, 36, 37, 38, 39, 40, 41, 42, 43, 44, 45, 46, 47, 48, 49, 50, 51, 52, 53, 54, 55] (by decide +kernel) (by decide +kernel)
set_option maxRecDepth 20000 in
theorem gX7_mark_X7_fails : GoodIn wsX7_mark (wsV RX7 69 RX7 yX7_fails wsX7_fails) := goodIn_app (goodIn_of _ (by decide +kernel)) ggX7_mark_X7_fails
set_option maxRecDepth 20000 in
theorem ggX7_mark_X7_arc : GoodIn wsX7_mark wsX7_arc := goodIn_r _ [29] (by decide +kernel) (by decide +kernel)
set_option maxRecDepth 20000 in
theorem gX7_mark_X7_arc : GoodIn wsX7_mark (wsV RX7 108 RX7 yX7_arc wsX7_arc) := goodIn_app (goodIn_of _ (by decide +kernel)) ggX7_mark_X7_arc
set_option maxRecDepth 20000 in
theorem ggX7_mark_X7_changed : GoodIn wsX7_mark wsX7_changed := goodIn_r _ [33, 34, 35, 36, 37, 38, 39, 40, 41, 42, 43, 44, 45, 46, 47, 48, 49, 50, 51, 52, 53, 54, 55] (by decide +kernel) (by decide +kernel)
set_option maxRecDepth 20000 in
theorem gX7_mark_X7_changed : GoodIn wsX7_mark (wsV RX7 73 RX7 yX7_changed wsX7_changed) := goodIn_app (goodIn_of _ (by decide +kernel)) ggX7_mark_X7_changed
theorem dX7_mark_0 : decode cX7_mark 0 = .ok (.aload_n 0, 1) := by decide +kernel
theorem dX7_mark_1 : decode cX7_mark 1 = .ok (.iload_n 1, 1) := by decide +kernel
theorem dX7_mark_2 : decode cX7_mark 2 = .ok (.iload_n 2, 1) := by decide +kernel
theorem dX7_mark_3 : decode cX7_mark 3 = .ok (.iload_n 3, 1) := by decide +kernel
theorem dX7_mark_4 : decode cX7_mark 4 = .ok (.invokevirtual 101, 3) := by decide +kernel
theorem dX7_mark_7 : decode cX7_mark 7 = .ok (.ifCond .ne 5, 3) := by decide +kernel
theorem dX7_mark_10 : decode cX7_mark 10 = .ok (.iconst 0, 1) := by decide +kernel
theorem dX7_mark_11 : decode cX7_mark 11 = .ok (.ireturn, 1) := by decide +kernel
theorem dX7_mark_12 : decode cX7_mark 12 = .ok (.iload 4, 2) := by decide +kernel
theorem dX7_mark_14 : decode cX7_mark 14 = .ok (.ifCond .lt 9, 3) := by decide +kernel
theorem dX7_mark_17 : decode cX7_mark 17 = .ok (.iload 4, 2) := by decide +kernel
theorem dX7_mark_19 : decode cX7_mark 19 = .ok (.iconst 2, 1) := by decide +kernel
theorem dX7_mark_20 : decode cX7_mark 20 = .ok (.if_icmp .le 9, 3) := by decide +kernel
theorem dX7_mark_23 : decode cX7_mark 23 = .ok (.aload_n 0, 1) := by decide +kernel
theorem dX7_mark_24 : decode cX7_mark 24 = .ok (.iconst 2, 1) := by decide +kernel
theorem dX7_mark_25 : decode cX7_mark 25 = .ok (.invokevirtual 69, 3) := by decide +kernel
theorem dX7_mark_28 : decode cX7_mark 28 = .ok (.ireturn, 1) := by decide +kernel
theorem dX7_mark_29 : decode cX7_mark 29 = .ok (.iconst 0, 1) := by decide +kernel
theorem dX7_mark_30 : decode cX7_mark 30 = .ok (.istore 5, 2) := by decide +kernel
theorem dX7_mark_32 : decode cX7_mark 32 = .ok (.iconst 0, 1) := by decide +kernel
theorem dX7_mark_33 : decode cX7_mark 33 = .ok (.istore 6, 2) := by decide +kernel
theorem dX7_mark_35 : decode cX7_mark 35 = .ok (.iload 6, 2) := by decide +kernel
theorem dX7_mark_37 : decode cX7_mark 37 = .ok (.bipush 6, 2) := by decide +kernel
theorem dX7_mark_39 : decode cX7_mark 39 = .ok (.if_icmp .gt 44, 3) := by decide +kernel
theorem dX7_mark_42 : decode cX7_mark 42 = .ok (.iload 5, 2) := by decide +kernel
theorem dX7_mark_44 : decode cX7_mark 44 = .ok (.ifCond .ne 26, 3) := by decide +kernel
theorem dX7_mark_47 : decode cX7_mark 47 = .ok (.iload 6, 2) := by decide +kernel
theorem dX7_mark_49 : decode cX7_mark 49 = .ok (.iload_n 2, 1) := by decide +kernel
theorem dX7_mark_50 : decode cX7_mark 50 = .ok (.if_icmp .eq 24, 3) := by decide +kernel
theorem dX7_mark_53 : decode cX7_mark 53 = .ok (.aload_n 0, 1) := by decide +kernel
theorem dX7_mark_54 : decode cX7_mark 54 = .ok (.getfield 16, 3) := by decide +kernel
theorem dX7_mark_57 : decode cX7_mark 57 = .ok (.aload_n 0, 1) := by decide +kernel
theorem dX7_mark_58 : decode cX7_mark 58 = .ok (.iload_n 1, 1) := by decide +kernel
theorem dX7_mark_59 : decode cX7_mark 59 = .ok (.iload 6, 2) := by decide +kernel
theorem dX7_mark_61 : decode cX7_mark 61 = .ok (.iload_n 3, 1) := by decide +kernel
theorem dX7_mark_62 : decode cX7_mark 62 = .ok (.invokevirtual 108, 3) := by decide +kernel
theorem dX7_mark_65 : decode cX7_mark 65 = .ok (.iaload, 1) := by decide +kernel
theorem dX7_mark_66 : decode cX7_mark 66 = .ok (.iconst 1, 1) := by decide +kernel
theorem dX7_mark_67 : decode cX7_mark 67 = .ok (.if_icmp .ne 7, 3) := by decide +kernel
theorem dX7_mark_70 : decode cX7_mark 70 = .ok (.iconst 1, 1) := by decide +kernel
theorem dX7_mark_71 : decode cX7_mark 71 = .ok (.goto 4, 3) := by decide +kernel
theorem dX7_mark_74 : decode cX7_mark 74 = .ok (.iconst 0, 1) := by decide +kernel
theorem dX7_mark_75 : decode cX7_mark 75 = .ok (.istore 5, 2) := by decide +kernel
theorem dX7_mark_77 : decode cX7_mark 77 = .ok (.iinc 6 1, 3) := by decide +kernel
theorem dX7_mark_80 : decode cX7_mark 80 = .ok (.goto (-45), 3) := by decide +kernel
theorem dX7_mark_83 : decode cX7_mark 83 = .ok (.iload 4, 2) := by decide +kernel
theorem dX7_mark_85 : decode cX7_mark 85 = .ok (.iconst 1, 1) := by decide +kernel
theorem dX7_mark_86 : decode cX7_mark 86 = .ok (.if_icmp .ne 14, 3) := by decide +kernel
theorem dX7_mark_89 : decode cX7_mark 89 = .ok (.iload 5, 2) := by decide +kernel
theorem dX7_mark_91 : decode cX7_mark 91 = .ok (.ifCond .eq 9, 3) := by decide +kernel
theorem dX7_mark_94 : decode cX7_mark 94 = .ok (.aload_n 0, 1) := by decide +kernel
theorem dX7_mark_95 : decode cX7_mark 95 = .ok (.iconst 3, 1) := by decide +kernel
theorem dX7_mark_96 : decode cX7_mark 96 = .ok (.invokevirtual 69, 3) := by decide +kernel
theorem dX7_mark_99 : decode cX7_mark 99 = .ok (.ireturn, 1) := by decide +kernel
theorem dX7_mark_100 : decode cX7_mark 100 = .ok (.aload_n 0, 1) := by decide +kernel
theorem dX7_mark_101 : decode cX7_mark 101 = .ok (.getfield 16, 3) := by decide +kernel
theorem dX7_mark_104 : decode cX7_mark 104 = .ok (.aload_n 0, 1) := by decide +kernel
theorem dX7_mark_105 : decode cX7_mark 105 = .ok (.iload_n 1, 1) := by decide +kernel
theorem dX7_mark_106 : decode cX7_mark 106 = .ok (.iload_n 2, 1) := by decide +kernel
theorem dX7_mark_107 : decode cX7_mark 107 = .ok (.iload_n 3, 1) := by decide +kernel
theorem dX7_mark_108 : decode cX7_mark 108 = .ok (.invokevirtual 108, 3) := by decide +kernel
theorem dX7_mark_111 : decode cX7_mark 111 = .ok (.iaload, 1) := by decide +kernel
theorem dX7_mark_112 : decode cX7_mark 112 = .ok (.istore 6, 2) := by decide +kernel
theorem dX7_mark_114 : decode cX7_mark 114 = .ok (.aload_n 0, 1) := by decide +kernel
theorem dX7_mark_115 : decode cX7_mark 115 = .ok (.getfield 16, 3) := by decide +kernel
theorem dX7_mark_118 : decode cX7_mark 118 = .ok (.aload_n 0, 1) := by decide +kernel
theorem dX7_mark_119 : decode cX7_mark 119 = .ok (.iload_n 1, 1) := by decide +kernel
theorem dX7_mark_120 : decode cX7_mark 120 = .ok (.iload_n 2, 1) := by decide +kernel
theorem dX7_mark_121 : decode cX7_mark 121 = .ok (.iload_n 3, 1) := by decide +kernel
theorem dX7_mark_122 : decode cX7_mark 122 = .ok (.invokevirtual 108, 3) := by decide +kernel
theorem dX7_mark_125 : decode cX7_mark 125 = .ok (.iload 4, 2) := by decide +kernel
theorem dX7_mark_127 : decode cX7_mark 127 = .ok (.iastore, 1) := by decide +kernel
theorem dX7_mark_128 : decode cX7_mark 128 = .ok (.aload_n 0, 1) := by decide +kernel
theorem dX7_mark_129 : decode cX7_mark 129 = .ok (.invokevirtual 73, 3) := by decide +kernel
theorem dX7_mark_132 : decode cX7_mark 132 = .ok (.iload 6, 2) := by decide +kernel
theorem dX7_mark_134 : decode cX7_mark 134 = .ok (.ireturn, 1) := by decide +kernel
theorem dX7_isBetween_0 : decode cX7_isBetween 0 = .ok (.iload_n 1, 1) := by decide +kernel
theorem dX7_isBetween_1 : decode cX7_isBetween 1 = .ok (.iload_n 2, 1) := by decide +kernel
theorem dX7_isBetween_2 : decode cX7_isBetween 2 = .ok (.if_icmp .ge 21, 3) := by decide +kernel
theorem dX7_isBetween_5 : decode cX7_isBetween 5 = .ok (.iload_n 0, 1) := by decide +kernel
theorem dX7_isBetween_6 : decode cX7_isBetween 6 = .ok (.iload_n 1, 1) := by decide +kernel
theorem dX7_isBetween_7 : decode cX7_isBetween 7 = .ok (.if_icmp .le 12, 3) := by decide +kernel
theorem dX7_isBetween_10 : decode cX7_isBetween 10 = .ok (.iload_n 0, 1) := by decide +kernel
theorem dX7_isBetween_11 : decode cX7_isBetween 11 = .ok (.iload_n 2, 1) := by decide +kernel
theorem dX7_isBetween_12 : decode cX7_isBetween 12 = .ok (.if_icmp .ge 7, 3) := by decide +kernel
theorem dX7_isBetween_15 : decode cX7_isBetween 15 = .ok (.iconst 1, 1) := by decide +kernel
theorem dX7_isBetween_16 : decode cX7_isBetween 16 = .ok (.goto 22, 3) := by decide +kernel
theorem dX7_isBetween_19 : decode cX7_isBetween 19 = .ok (.iconst 0, 1) := by decide +kernel
theorem dX7_isBetween_20 : decode cX7_isBetween 20 = .ok (.goto 18, 3) := by decide +kernel
theorem dX7_isBetween_23 : decode cX7_isBetween 23 = .ok (.iload_n 0, 1) := by decide +kernel
theorem dX7_isBetween_24 : decode cX7_isBetween 24 = .ok (.iload_n 2, 1) := by decide +kernel
theorem dX7_isBetween_25 : decode cX7_isBetween 25 = .ok (.if_icmp .le 12, 3) := by decide +kernel
theorem dX7_isBetween_28 : decode cX7_isBetween 28 = .ok (.iload_n 0, 1) := by decide +kernel
theorem dX7_isBetween_29 : decode cX7_isBetween 29 = .ok (.iload_n 1, 1) := by decide +kernel
theorem dX7_isBetween_30 : decode cX7_isBetween 30 = .ok (.if_icmp .ge 7, 3) := by decide +kernel
theorem dX7_isBetween_33 : decode cX7_isBetween 33 = .ok (.iconst 1, 1) := by decide +kernel
theorem dX7_isBetween_34 : decode cX7_isBetween 34 = .ok (.goto 4, 3) := by decide +kernel
theorem dX7_isBetween_37 : decode cX7_isBetween 37 = .ok (.iconst 0, 1) := by decide +kernel
theorem dX7_isBetween_38 : decode cX7_isBetween 38 = .ok (.ireturn, 1) := by decide +kernel
theorem dX7_isBeyond_0 : decode cX7_isBeyond 0 = .ok (.iload_n 1, 1) := by decide +kernel
theorem dX7_isBeyond_1 : decode cX7_isBeyond 1 = .ok (.iload_n 2, 1) := by decide +kernel
theorem dX7_isBeyond_2 : decode cX7_isBeyond 2 = .ok (.if_icmp .ge 21, 3) := by decide +kernel
theorem dX7_isBeyond_5 : decode cX7_isBeyond 5 = .ok (.iload_n 0, 1) := by decide +kernel
theorem dX7_isBeyond_6 : decode cX7_isBeyond 6 = .ok (.iload_n 1, 1) := by decide +kernel
theorem dX7_isBeyond_7 : decode cX7_isBeyond 7 = .ok (.if_icmp .lt 8, 3) := by decide +kernel
theorem dX7_isBeyond_10 : decode cX7_isBeyond 10 = .ok (.iload_n 0, 1) := by decide +kernel
theorem dX7_isBeyond_11 : decode cX7_isBeyond 11 = .ok (.iload_n 2, 1) := by decide +kernel
theorem dX7_isBeyond_12 : decode cX7_isBeyond 12 = .ok (.if_icmp .le 7, 3) := by decide +kernel
theorem dX7_isBeyond_15 : decode cX7_isBeyond 15 = .ok (.iconst 1, 1) := by decide +kernel
theorem dX7_isBeyond_16 : decode cX7_isBeyond 16 = .ok (.goto 22, 3) := by decide +kernel
theorem dX7_isBeyond_19 : decode cX7_isBeyond 19 = .ok (.iconst 0, 1) := by decide +kernel
theorem dX7_isBeyond_20 : decode cX7_isBeyond 20 = .ok (.goto 18, 3) := by decide +kernel
theorem dX7_isBeyond_23 : decode cX7_isBeyond 23 = .ok (.iload_n 0, 1) := by decide +kernel
theorem dX7_isBeyond_24 : decode cX7_isBeyond 24 = .ok (.iload_n 2, 1) := by decide +kernel
theorem dX7_isBeyond_25 : decode cX7_isBeyond 25 = .ok (.if_icmp .lt 8, 3) := by decide +kernel
theorem dX7_isBeyond_28 : decode cX7_isBeyond 28 = .ok (.iload_n 0, 1) := by decide +kernel
theorem dX7_isBeyond_29 : decode cX7_isBeyond 29 = .ok (.iload_n 1, 1) := by decide +kernel
theorem dX7_isBeyond_30 : decode cX7_isBeyond 30 = .ok (.if_icmp .le 7, 3) := by decide +kernel
theorem dX7_isBeyond_33 : decode cX7_isBeyond 33 = .ok (.iconst 1, 1) := by decide +kernel
theorem dX7_isBeyond_34 : decode cX7_isBeyond 34 = .ok (.goto 4, 3) := by decide +kernel
theorem dX7_isBeyond_37 : decode cX7_isBeyond 37 = .ok (.iconst 0, 1) := by decide +kernel
theorem dX7_isBeyond_38 : decode cX7_isBeyond 38 = .ok (.ireturn, 1) := by decide +kernel
set_option maxRecDepth 20000 in
theorem ggX7_doCross_X7_isBetween : GoodIn wsX7_doCross wsX7_isBetween := goodIn_r _ [5] (by decide +kernel) (by decide +kernel)
set_option maxRecDepth 20000 in
theorem gX7_doCross_X7_isBetween : GoodIn wsX7_doCross (va_wsS RX7 111 yX7_isBetween wsX7_isBetween) := goodIn_app (goodIn_of _ (by decide +kernel)) ggX7_doCross_X7_isBetween
set_option maxRecDepth 20000 in
theorem ggX7_doCross_X7_isBeyond : GoodIn wsX7_doCross wsX7_isBeyond := goodIn_r _ [8] (by decide +kernel) (by decide +kernel)
set_option maxRecDepth 20000 in
theorem gX7_doCross_X7_isBeyond : GoodIn wsX7_doCross (va_wsS RX7 114 yX7_isBeyond wsX7_isBeyond) := goodIn_app (goodIn_of _ (by decide +kernel)) ggX7_doCross_X7_isBeyond
theorem dX7_doCross_0 : decode cX7_doCross 0 = .ok (.aload_n 0, 1) := by decide +kernel
theorem dX7_doCross_1 : decode cX7_doCross 1 = .ok (.getfield 52, 3) := by decide +kernel
theorem dX7_doCross_4 : decode cX7_doCross 4 = .ok (.iload_n 2, 1) := by decide +kernel
theorem dX7_doCross_5 : decode cX7_doCross 5 = .ok (.iaload, 1) := by decide +kernel
theorem dX7_doCross_6 : decode cX7_doCross 6 = .ok (.istore_n 3, 1) := by decide +kernel
theorem dX7_doCross_7 : decode cX7_doCross 7 = .ok (.iload_n 1, 1) := by decide +kernel
theorem dX7_doCross_8 : decode cX7_doCross 8 = .ok (.iload_n 3, 1) := by decide +kernel
theorem dX7_doCross_9 : decode cX7_doCross 9 = .ok (.iload_n 2, 1) := by decide +kernel
theorem dX7_doCross_10 : decode cX7_doCross 10 = .ok (.invokestatic 111, 3) := by decide +kernel
theorem dX7_doCross_13 : decode cX7_doCross 13 = .ok (.ifCond .eq 17, 3) := by decide +kernel
theorem dX7_doCross_16 : decode cX7_doCross 16 = .ok (.aload_n 0, 1) := by decide +kernel
theorem dX7_doCross_17 : decode cX7_doCross 17 = .ok (.getfield 52, 3) := by decide +kernel
theorem dX7_doCross_20 : decode cX7_doCross 20 = .ok (.iload_n 1, 1) := by decide +kernel
theorem dX7_doCross_21 : decode cX7_doCross 21 = .ok (.iaload, 1) := by decide +kernel
theorem dX7_doCross_22 : decode cX7_doCross 22 = .ok (.iload_n 3, 1) := by decide +kernel
theorem dX7_doCross_23 : decode cX7_doCross 23 = .ok (.iload_n 2, 1) := by decide +kernel
theorem dX7_doCross_24 : decode cX7_doCross 24 = .ok (.invokestatic 114, 3) := by decide +kernel
theorem dX7_doCross_27 : decode cX7_doCross 27 = .ok (.ifCond .ne 26, 3) := by decide +kernel
theorem dX7_doCross_30 : decode cX7_doCross 30 = .ok (.aload_n 0, 1) := by decide +kernel
theorem dX7_doCross_31 : decode cX7_doCross 31 = .ok (.getfield 52, 3) := by decide +kernel
theorem dX7_doCross_34 : decode cX7_doCross 34 = .ok (.iload_n 1, 1) := by decide +kernel
theorem dX7_doCross_35 : decode cX7_doCross 35 = .ok (.iaload, 1) := by decide +kernel
theorem dX7_doCross_36 : decode cX7_doCross 36 = .ok (.iload_n 3, 1) := by decide +kernel
theorem dX7_doCross_37 : decode cX7_doCross 37 = .ok (.iload_n 2, 1) := by decide +kernel
theorem dX7_doCross_38 : decode cX7_doCross 38 = .ok (.invokestatic 111, 3) := by decide +kernel
theorem dX7_doCross_41 : decode cX7_doCross 41 = .ok (.ifCond .eq 16, 3) := by decide +kernel
theorem dX7_doCross_44 : decode cX7_doCross 44 = .ok (.iload_n 1, 1) := by decide +kernel
theorem dX7_doCross_45 : decode cX7_doCross 45 = .ok (.iload_n 3, 1) := by decide +kernel
theorem dX7_doCross_46 : decode cX7_doCross 46 = .ok (.iload_n 2, 1) := by decide +kernel
theorem dX7_doCross_47 : decode cX7_doCross 47 = .ok (.invokestatic 114, 3) := by decide +kernel
theorem dX7_doCross_50 : decode cX7_doCross 50 = .ok (.ifCond .eq 7, 3) := by decide +kernel
theorem dX7_doCross_53 : decode cX7_doCross 53 = .ok (.iconst 1, 1) := by decide +kernel
theorem dX7_doCross_54 : decode cX7_doCross 54 = .ok (.goto 4, 3) := by decide +kernel
theorem dX7_doCross_57 : decode cX7_doCross 57 = .ok (.iconst 0, 1) := by decide +kernel
theorem dX7_doCross_58 : decode cX7_doCross 58 = .ok (.ireturn, 1) := by decide +kernel
set_option maxRecDepth 20000 in
theorem ggX7_may_X7_arc : GoodIn wsX7_may wsX7_arc := goodIn_r _ [8] (by decide +kernel) (by decide +kernel)
set_option maxRecDepth 20000 in
theorem gX7_may_X7_arc : GoodIn wsX7_may (wsV RX7 108 RX7 yX7_arc wsX7_arc) := goodIn_app (goodIn_of _ (by decide +kernel)) ggX7_may_X7_arc
set_option maxRecDepth 20000 in
theorem ggX7_may_X7_doCross : GoodIn wsX7_may wsX7_doCross := goodIn_r _ [12, 1, 13, 14, 7, 15, 16, 17, 18, 19, 20, 21, 22, 23, 24, 25, 26, 27, 28, 29, 30, 31, 32, 33, 34, 35, 36, 37, 38] (by decide +kernel) (by decide +kernel)
set_option maxRecDepth 20000 in
theorem gX7_may_X7_doCross : GoodIn wsX7_may (wsV RX7 117 RX7 yX7_doCross wsX7_doCross) := goodIn_app (goodIn_of _ (by decide +kernel)) ggX7_may_X7_doCross
theorem dX7_may_0 : decode cX7_may 0 = .ok (.aload_n 0, 1) := by decide +kernel
theorem dX7_may_1 : decode cX7_may 1 = .ok (.getfield 52, 3) := by decide +kernel
theorem dX7_may_4 : decode cX7_may 4 = .ok (.iload_n 2, 1) := by decide +kernel
theorem dX7_may_5 : decode cX7_may 5 = .ok (.iaload, 1) := by decide +kernel
theorem dX7_may_6 : decode cX7_may 6 = .ok (.istore 4, 2) := by decide +kernel
theorem dX7_may_8 : decode cX7_may 8 = .ok (.iload 4, 2) := by decide +kernel
theorem dX7_may_10 : decode cX7_may 10 = .ok (.iload_n 2, 1) := by decide +kernel
theorem dX7_may_11 : decode cX7_may 11 = .ok (.if_icmp .eq 24, 3) := by decide +kernel
theorem dX7_may_14 : decode cX7_may 14 = .ok (.aload_n 0, 1) := by decide +kernel
theorem dX7_may_15 : decode cX7_may 15 = .ok (.getfield 16, 3) := by decide +kernel
theorem dX7_may_18 : decode cX7_may 18 = .ok (.aload_n 0, 1) := by decide +kernel
theorem dX7_may_19 : decode cX7_may 19 = .ok (.iload_n 1, 1) := by decide +kernel
theorem dX7_may_20 : decode cX7_may 20 = .ok (.iload 4, 2) := by decide +kernel
theorem dX7_may_22 : decode cX7_may 22 = .ok (.iload_n 2, 1) := by decide +kernel
theorem dX7_may_23 : decode cX7_may 23 = .ok (.invokevirtual 108, 3) := by decide +kernel
theorem dX7_may_26 : decode cX7_may 26 = .ok (.iaload, 1) := by decide +kernel
theorem dX7_may_27 : decode cX7_may 27 = .ok (.iconst 2, 1) := by decide +kernel
theorem dX7_may_28 : decode cX7_may 28 = .ok (.if_icmp .eq 7, 3) := by decide +kernel
theorem dX7_may_31 : decode cX7_may 31 = .ok (.iconst 1, 1) := by decide +kernel
theorem dX7_may_32 : decode cX7_may 32 = .ok (.goto 4, 3) := by decide +kernel
theorem dX7_may_35 : decode cX7_may 35 = .ok (.iconst 0, 1) := by decide +kernel
theorem dX7_may_36 : decode cX7_may 36 = .ok (.istore 5, 2) := by decide +kernel
theorem dX7_may_38 : decode cX7_may 38 = .ok (.iconst 0, 1) := by decide +kernel
theorem dX7_may_39 : decode cX7_may 39 = .ok (.istore 6, 2) := by decide +kernel
theorem dX7_may_41 : decode cX7_may 41 = .ok (.iload 6, 2) := by decide +kernel
theorem dX7_may_43 : decode cX7_may 43 = .ok (.aload_n 0, 1) := by decide +kernel
theorem dX7_may_44 : decode cX7_may 44 = .ok (.getfield 7, 3) := by decide +kernel
theorem dX7_may_47 : decode cX7_may 47 = .ok (.iload_n 1, 1) := by decide +kernel
theorem dX7_may_48 : decode cX7_may 48 = .ok (.iaload, 1) := by decide +kernel
theorem dX7_may_49 : decode cX7_may 49 = .ok (.if_icmp .gt 45, 3) := by decide +kernel
theorem dX7_may_52 : decode cX7_may 52 = .ok (.iload 5, 2) := by decide +kernel
theorem dX7_may_54 : decode cX7_may 54 = .ok (.ifCond .eq 31, 3) := by decide +kernel
theorem dX7_may_57 : decode cX7_may 57 = .ok (.iload 6, 2) := by decide +kernel
theorem dX7_may_59 : decode cX7_may 59 = .ok (.iload 4, 2) := by decide +kernel
theorem dX7_may_61 : decode cX7_may 61 = .ok (.if_icmp .eq 20, 3) := by decide +kernel
theorem dX7_may_64 : decode cX7_may 64 = .ok (.aload_n 0, 1) := by decide +kernel
theorem dX7_may_65 : decode cX7_may 65 = .ok (.getfield 16, 3) := by decide +kernel
theorem dX7_may_68 : decode cX7_may 68 = .ok (.aload_n 0, 1) := by decide +kernel
theorem dX7_may_69 : decode cX7_may 69 = .ok (.iload_n 1, 1) := by decide +kernel
theorem dX7_may_70 : decode cX7_may 70 = .ok (.iload 6, 2) := by decide +kernel
theorem dX7_may_72 : decode cX7_may 72 = .ok (.iload_n 2, 1) := by decide +kernel
theorem dX7_may_73 : decode cX7_may 73 = .ok (.invokevirtual 108, 3) := by decide +kernel
theorem dX7_may_76 : decode cX7_may 76 = .ok (.iaload, 1) := by decide +kernel
theorem dX7_may_77 : decode cX7_may 77 = .ok (.iconst 1, 1) := by decide +kernel
theorem dX7_may_78 : decode cX7_may 78 = .ok (.if_icmp .eq 7, 3) := by decide +kernel
theorem dX7_may_81 : decode cX7_may 81 = .ok (.iconst 1, 1) := by decide +kernel
theorem dX7_may_82 : decode cX7_may 82 = .ok (.goto 4, 3) := by decide +kernel
theorem dX7_may_85 : decode cX7_may 85 = .ok (.iconst 0, 1) := by decide +kernel
theorem dX7_may_86 : decode cX7_may 86 = .ok (.istore 5, 2) := by decide +kernel
theorem dX7_may_88 : decode cX7_may 88 = .ok (.iinc 6 1, 3) := by decide +kernel
theorem dX7_may_91 : decode cX7_may 91 = .ok (.goto (-50), 3) := by decide +kernel
theorem dX7_may_94 : decode cX7_may 94 = .ok (.iload 4, 2) := by decide +kernel
theorem dX7_may_96 : decode cX7_may 96 = .ok (.istore 6, 2) := by decide +kernel
theorem dX7_may_98 : decode cX7_may 98 = .ok (.iload 5, 2) := by decide +kernel
theorem dX7_may_100 : decode cX7_may 100 = .ok (.ifCond .eq 26, 3) := by decide +kernel
theorem dX7_may_103 : decode cX7_may 103 = .ok (.iload 6, 2) := by decide +kernel
theorem dX7_may_105 : decode cX7_may 105 = .ok (.ifCond .le 21, 3) := by decide +kernel
theorem dX7_may_108 : decode cX7_may 108 = .ok (.iload 6, 2) := by decide +kernel
theorem dX7_may_110 : decode cX7_may 110 = .ok (.iload_n 2, 1) := by decide +kernel
theorem dX7_may_111 : decode cX7_may 111 = .ok (.if_icmp .ge 15, 3) := by decide +kernel
theorem dX7_may_114 : decode cX7_may 114 = .ok (.aload_n 0, 1) := by decide +kernel
theorem dX7_may_115 : decode cX7_may 115 = .ok (.getfield 52, 3) := by decide +kernel
theorem dX7_may_118 : decode cX7_may 118 = .ok (.iload 6, 2) := by decide +kernel
theorem dX7_may_120 : decode cX7_may 120 = .ok (.iaload, 1) := by decide +kernel
theorem dX7_may_121 : decode cX7_may 121 = .ok (.istore 6, 2) := by decide +kernel
theorem dX7_may_123 : decode cX7_may 123 = .ok (.goto (-25), 3) := by decide +kernel
theorem dX7_may_126 : decode cX7_may 126 = .ok (.iload 5, 2) := by decide +kernel
theorem dX7_may_128 : decode cX7_may 128 = .ok (.ifCond .eq 13, 3) := by decide +kernel
theorem dX7_may_131 : decode cX7_may 131 = .ok (.iload 6, 2) := by decide +kernel
theorem dX7_may_133 : decode cX7_may 133 = .ok (.iload_n 2, 1) := by decide +kernel
theorem dX7_may_134 : decode cX7_may 134 = .ok (.if_icmp .eq 7, 3) := by decide +kernel
theorem dX7_may_137 : decode cX7_may 137 = .ok (.iconst 1, 1) := by decide +kernel
theorem dX7_may_138 : decode cX7_may 138 = .ok (.goto 4, 3) := by decide +kernel
theorem dX7_may_141 : decode cX7_may 141 = .ok (.iconst 0, 1) := by decide +kernel
theorem dX7_may_142 : decode cX7_may 142 = .ok (.istore 5, 2) := by decide +kernel
theorem dX7_may_144 : decode cX7_may 144 = .ok (.iconst 1, 1) := by decide +kernel
theorem dX7_may_145 : decode cX7_may 145 = .ok (.istore 7, 2) := by decide +kernel
theorem dX7_may_147 : decode cX7_may 147 = .ok (.iload 7, 2) := by decide +kernel
theorem dX7_may_149 : decode cX7_may 149 = .ok (.iload_n 2, 1) := by decide +kernel
theorem dX7_may_150 : decode cX7_may 150 = .ok (.if_icmp .ge 35, 3) := by decide +kernel
theorem dX7_may_153 : decode cX7_may 153 = .ok (.iload 5, 2) := by decide +kernel
theorem dX7_may_155 : decode cX7_may 155 = .ok (.ifCond .eq 30, 3) := by decide +kernel
theorem dX7_may_158 : decode cX7_may 158 = .ok (.iload_n 3, 1) := by decide +kernel
theorem dX7_may_159 : decode cX7_may 159 = .ok (.ifCond .ne 26, 3) := by decide +kernel
theorem dX7_may_162 : decode cX7_may 162 = .ok (.aload_n 0, 1) := by decide +kernel
theorem dX7_may_163 : decode cX7_may 163 = .ok (.iload_n 2, 1) := by decide +kernel
theorem dX7_may_164 : decode cX7_may 164 = .ok (.iload 7, 2) := by decide +kernel
theorem dX7_may_166 : decode cX7_may 166 = .ok (.invokevirtual 117, 3) := by decide +kernel
theorem dX7_may_169 : decode cX7_may 169 = .ok (.ifCond .ne 7, 3) := by decide +kernel
theorem dX7_may_172 : decode cX7_may 172 = .ok (.iconst 1, 1) := by decide +kernel
theorem dX7_may_173 : decode cX7_may 173 = .ok (.goto 4, 3) := by decide +kernel
theorem dX7_may_176 : decode cX7_may 176 = .ok (.iconst 0, 1) := by decide +kernel
theorem dX7_may_177 : decode cX7_may 177 = .ok (.istore 5, 2) := by decide +kernel
theorem dX7_may_179 : decode cX7_may 179 = .ok (.iinc 7 1, 3) := by decide +kernel
theorem dX7_may_182 : decode cX7_may 182 = .ok (.goto (-35), 3) := by decide +kernel
theorem dX7_may_185 : decode cX7_may 185 = .ok (.iload 5, 2) := by decide +kernel
theorem dX7_may_187 : decode cX7_may 187 = .ok (.ireturn, 1) := by decide +kernel
set_option maxRecDepth 20000 in
theorem ggX7_keyOf_X7_scoreOf : GoodIn wsX7_keyOf wsX7_scoreOf := goodIn_r _ [8, 9, 10, 11, 12, 7, 13, 14, 15, 16, 17, 18, 19, 20, 21, 22, 23, 24, 25, 26, 27, 28, 29, 30, 31, 32, 33, 34, 35, 36, 37] (by decide +kernel) (by decide +kernel)
set_option maxRecDepth 20000 in
theorem gX7_keyOf_X7_scoreOf : GoodIn wsX7_keyOf (wsV RX7 105 RX7 yX7_scoreOf wsX7_scoreOf) := goodIn_app (goodIn_of _ (by decide +kernel)) ggX7_keyOf_X7_scoreOf
theorem dX7_keyOf_0 : decode cX7_keyOf 0 = .ok (.iconst 0, 1) := by decide +kernel
theorem dX7_keyOf_1 : decode cX7_keyOf 1 = .ok (.istore_n 2, 1) := by decide +kernel
theorem dX7_keyOf_2 : decode cX7_keyOf 2 = .ok (.iconst 0, 1) := by decide +kernel
theorem dX7_keyOf_3 : decode cX7_keyOf 3 = .ok (.istore_n 3, 1) := by decide +kernel
theorem dX7_keyOf_4 : decode cX7_keyOf 4 = .ok (.iconst 1, 1) := by decide +kernel
theorem dX7_keyOf_5 : decode cX7_keyOf 5 = .ok (.istore 4, 2) := by decide +kernel
theorem dX7_keyOf_7 : decode cX7_keyOf 7 = .ok (.iload 4, 2) := by decide +kernel
theorem dX7_keyOf_9 : decode cX7_keyOf 9 = .ok (.aload_n 0, 1) := by decide +kernel
theorem dX7_keyOf_10 : decode cX7_keyOf 10 = .ok (.getfield 7, 3) := by decide +kernel
theorem dX7_keyOf_13 : decode cX7_keyOf 13 = .ok (.iload_n 1, 1) := by decide +kernel
theorem dX7_keyOf_14 : decode cX7_keyOf 14 = .ok (.iaload, 1) := by decide +kernel
theorem dX7_keyOf_15 : decode cX7_keyOf 15 = .ok (.if_icmp .gt 39, 3) := by decide +kernel
theorem dX7_keyOf_18 : decode cX7_keyOf 18 = .ok (.iload_n 2, 1) := by decide +kernel
theorem dX7_keyOf_19 : decode cX7_keyOf 19 = .ok (.aload_n 0, 1) := by decide +kernel
theorem dX7_keyOf_20 : decode cX7_keyOf 20 = .ok (.iload_n 1, 1) := by decide +kernel
theorem dX7_keyOf_21 : decode cX7_keyOf 21 = .ok (.aload_n 0, 1) := by decide +kernel
theorem dX7_keyOf_22 : decode cX7_keyOf 22 = .ok (.getfield 52, 3) := by decide +kernel
theorem dX7_keyOf_25 : decode cX7_keyOf 25 = .ok (.iload 4, 2) := by decide +kernel
theorem dX7_keyOf_27 : decode cX7_keyOf 27 = .ok (.iaload, 1) := by decide +kernel
theorem dX7_keyOf_28 : decode cX7_keyOf 28 = .ok (.iload 4, 2) := by decide +kernel
theorem dX7_keyOf_30 : decode cX7_keyOf 30 = .ok (.invokevirtual 105, 3) := by decide +kernel
theorem dX7_keyOf_33 : decode cX7_keyOf 33 = .ok (.iadd, 1) := by decide +kernel
theorem dX7_keyOf_34 : decode cX7_keyOf 34 = .ok (.istore_n 2, 1) := by decide +kernel
theorem dX7_keyOf_35 : decode cX7_keyOf 35 = .ok (.bipush 8, 2) := by decide +kernel
theorem dX7_keyOf_37 : decode cX7_keyOf 37 = .ok (.iload_n 3, 1) := by decide +kernel
theorem dX7_keyOf_38 : decode cX7_keyOf 38 = .ok (.imul, 1) := by decide +kernel
theorem dX7_keyOf_39 : decode cX7_keyOf 39 = .ok (.aload_n 0, 1) := by decide +kernel
theorem dX7_keyOf_40 : decode cX7_keyOf 40 = .ok (.getfield 52, 3) := by decide +kernel
theorem dX7_keyOf_43 : decode cX7_keyOf 43 = .ok (.iload 4, 2) := by decide +kernel
theorem dX7_keyOf_45 : decode cX7_keyOf 45 = .ok (.iaload, 1) := by decide +kernel
theorem dX7_keyOf_46 : decode cX7_keyOf 46 = .ok (.iadd, 1) := by decide +kernel
theorem dX7_keyOf_47 : decode cX7_keyOf 47 = .ok (.istore_n 3, 1) := by decide +kernel
theorem dX7_keyOf_48 : decode cX7_keyOf 48 = .ok (.iinc 4 1, 3) := by decide +kernel
theorem dX7_keyOf_51 : decode cX7_keyOf 51 = .ok (.goto (-44), 3) := by decide +kernel
theorem dX7_keyOf_54 : decode cX7_keyOf 54 = .ok (.ldc 120, 2) := by decide +kernel
theorem dX7_keyOf_56 : decode cX7_keyOf 56 = .ok (.iload_n 2, 1) := by decide +kernel
theorem dX7_keyOf_57 : decode cX7_keyOf 57 = .ok (.isub, 1) := by decide +kernel
theorem dX7_keyOf_58 : decode cX7_keyOf 58 = .ok (.i2l, 1) := by decide +kernel
theorem dX7_keyOf_59 : decode cX7_keyOf 59 = .ok (.bipush 18, 2) := by decide +kernel
theorem dX7_keyOf_61 : decode cX7_keyOf 61 = .ok (.lshl, 1) := by decide +kernel
theorem dX7_keyOf_62 : decode cX7_keyOf 62 = .ok (.iload_n 3, 1) := by decide +kernel
theorem dX7_keyOf_63 : decode cX7_keyOf 63 = .ok (.i2l, 1) := by decide +kernel
theorem dX7_keyOf_64 : decode cX7_keyOf 64 = .ok (.ladd, 1) := by decide +kernel
theorem dX7_keyOf_65 : decode cX7_keyOf 65 = .ok (.lreturn, 1) := by decide +kernel
set_option maxRecDepth 20000 in
theorem ggX7_walks_X7_keyOf : GoodIn wsX7_walks wsX7_keyOf := goodIn_r _ [13, 1, 4, 14, 15, 16, 17, 12, 18, 19, 20, 21, 22, 23, 24, 25, 26, 27, 47, 48, 49, 50, 51, 52, 53, 54, 55, 56, 57, 58, 59, 60, 61, 62, 63, 64, 65, 66] (by decide +kernel) (by decide +kernel)
set_option maxRecDepth 20000 in
theorem gX7_walks_X7_keyOf : GoodIn wsX7_walks (wsV RX7 126 RX7 yX7_keyOf wsX7_keyOf) := goodIn_app (goodIn_of _ (by decide +kernel)) ggX7_walks_X7_keyOf
set_option maxRecDepth 20000 in
theorem ggX7_walks_X7_may : GoodIn wsX7_walks wsX7_may := goodIn_r _ [31, 4, 32, 1, 33, 34, 35, 12, 36, 37, 38, 39, 40, 41, 42, 43, 44, 45, 46, 47, 48, 49, 50, 51, 52, 53, 54, 55, 56, 57, 58, 59, 60, 61, 62, 63, 64, 65, 66] (by decide +kernel) (by decide +kernel)
set_option maxRecDepth 20000 in
theorem gX7_walks_X7_may : GoodIn wsX7_walks (wsV RX7 130 RX7 yX7_may wsX7_may) := goodIn_app (goodIn_of _ (by decide +kernel)) ggX7_walks_X7_may
theorem dX7_walks_0 : decode cX7_walks 0 = .ok (.aload_n 0, 1) := by decide +kernel
theorem dX7_walks_1 : decode cX7_walks 1 = .ok (.getfield 7, 3) := by decide +kernel
theorem dX7_walks_4 : decode cX7_walks 4 = .ok (.iload_n 1, 1) := by decide +kernel
theorem dX7_walks_5 : decode cX7_walks 5 = .ok (.iaload, 1) := by decide +kernel
theorem dX7_walks_6 : decode cX7_walks 6 = .ok (.istore 4, 2) := by decide +kernel
theorem dX7_walks_8 : decode cX7_walks 8 = .ok (.iconst 2, 1) := by decide +kernel
theorem dX7_walks_9 : decode cX7_walks 9 = .ok (.iload_n 1, 1) := by decide +kernel
theorem dX7_walks_10 : decode cX7_walks 10 = .ok (.imul, 1) := by decide +kernel
theorem dX7_walks_11 : decode cX7_walks 11 = .ok (.iload_n 2, 1) := by decide +kernel
theorem dX7_walks_12 : decode cX7_walks 12 = .ok (.ifCond .eq 7, 3) := by decide +kernel
theorem dX7_walks_15 : decode cX7_walks 15 = .ok (.iconst 1, 1) := by decide +kernel
theorem dX7_walks_16 : decode cX7_walks 16 = .ok (.goto 4, 3) := by decide +kernel
theorem dX7_walks_19 : decode cX7_walks 19 = .ok (.iconst 0, 1) := by decide +kernel
theorem dX7_walks_20 : decode cX7_walks 20 = .ok (.iadd, 1) := by decide +kernel
theorem dX7_walks_21 : decode cX7_walks 21 = .ok (.istore 5, 2) := by decide +kernel
theorem dX7_walks_23 : decode cX7_walks 23 = .ok (.ldc2_w 121, 3) := by decide +kernel
theorem dX7_walks_26 : decode cX7_walks 26 = .ok (.lstore 6, 2) := by decide +kernel
theorem dX7_walks_28 : decode cX7_walks 28 = .ok (.aload_n 0, 1) := by decide +kernel
theorem dX7_walks_29 : decode cX7_walks 29 = .ok (.iconst 0, 1) := by decide +kernel
theorem dX7_walks_30 : decode cX7_walks 30 = .ok (.putfield 123, 3) := by decide +kernel
theorem dX7_walks_33 : decode cX7_walks 33 = .ok (.iconst 1, 1) := by decide +kernel
theorem dX7_walks_34 : decode cX7_walks 34 = .ok (.istore 8, 2) := by decide +kernel
theorem dX7_walks_36 : decode cX7_walks 36 = .ok (.aload_n 0, 1) := by decide +kernel
theorem dX7_walks_37 : decode cX7_walks 37 = .ok (.getfield 52, 3) := by decide +kernel
theorem dX7_walks_40 : decode cX7_walks 40 = .ok (.iconst 1, 1) := by decide +kernel
theorem dX7_walks_41 : decode cX7_walks 41 = .ok (.iconst (-1), 1) := by decide +kernel
theorem dX7_walks_42 : decode cX7_walks 42 = .ok (.iastore, 1) := by decide +kernel
theorem dX7_walks_43 : decode cX7_walks 43 = .ok (.iload 8, 2) := by decide +kernel
theorem dX7_walks_45 : decode cX7_walks 45 = .ok (.ifCond .le 130, 3) := by decide +kernel
theorem dX7_walks_48 : decode cX7_walks 48 = .ok (.iload 8, 2) := by decide +kernel
theorem dX7_walks_50 : decode cX7_walks 50 = .ok (.iload 4, 2) := by decide +kernel
theorem dX7_walks_52 : decode cX7_walks 52 = .ok (.if_icmp .le 58, 3) := by decide +kernel
theorem dX7_walks_55 : decode cX7_walks 55 = .ok (.aload_n 0, 1) := by decide +kernel
theorem dX7_walks_56 : decode cX7_walks 56 = .ok (.iload_n 1, 1) := by decide +kernel
theorem dX7_walks_57 : decode cX7_walks 57 = .ok (.invokevirtual 126, 3) := by decide +kernel
theorem dX7_walks_60 : decode cX7_walks 60 = .ok (.lstore 9, 2) := by decide +kernel
theorem dX7_walks_62 : decode cX7_walks 62 = .ok (.lload 9, 2) := by decide +kernel
theorem dX7_walks_64 : decode cX7_walks 64 = .ok (.lload 6, 2) := by decide +kernel
theorem dX7_walks_66 : decode cX7_walks 66 = .ok (.lcmp, 1) := by decide +kernel
theorem dX7_walks_67 : decode cX7_walks 67 = .ok (.ifCond .ge 8, 3) := by decide +kernel
theorem dX7_walks_70 : decode cX7_walks 70 = .ok (.lload 9, 2) := by decide +kernel
theorem dX7_walks_72 : decode cX7_walks 72 = .ok (.goto 5, 3) := by decide +kernel
theorem dX7_walks_75 : decode cX7_walks 75 = .ok (.lload 6, 2) := by decide +kernel
theorem dX7_walks_77 : decode cX7_walks 77 = .ok (.lstore 6, 2) := by decide +kernel
theorem dX7_walks_79 : decode cX7_walks 79 = .ok (.iload_n 3, 1) := by decide +kernel
theorem dX7_walks_80 : decode cX7_walks 80 = .ok (.ifCond .eq 14, 3) := by decide +kernel
theorem dX7_walks_83 : decode cX7_walks 83 = .ok (.aload_n 0, 1) := by decide +kernel
theorem dX7_walks_84 : decode cX7_walks 84 = .ok (.getfield 35, 3) := by decide +kernel
theorem dX7_walks_87 : decode cX7_walks 87 = .ok (.aload_n 0, 1) := by decide +kernel
theorem dX7_walks_88 : decode cX7_walks 88 = .ok (.getfield 123, 3) := by decide +kernel
theorem dX7_walks_91 : decode cX7_walks 91 = .ok (.lload 9, 2) := by decide +kernel
theorem dX7_walks_93 : decode cX7_walks 93 = .ok (.lastore, 1) := by decide +kernel
theorem dX7_walks_94 : decode cX7_walks 94 = .ok (.aload_n 0, 1) := by decide +kernel
theorem dX7_walks_95 : decode cX7_walks 95 = .ok (.dup, 1) := by decide +kernel
theorem dX7_walks_96 : decode cX7_walks 96 = .ok (.getfield 123, 3) := by decide +kernel
theorem dX7_walks_99 : decode cX7_walks 99 = .ok (.iconst 1, 1) := by decide +kernel
theorem dX7_walks_100 : decode cX7_walks 100 = .ok (.iadd, 1) := by decide +kernel
theorem dX7_walks_101 : decode cX7_walks 101 = .ok (.putfield 123, 3) := by decide +kernel
theorem dX7_walks_104 : decode cX7_walks 104 = .ok (.iinc 8 (-1), 3) := by decide +kernel
theorem dX7_walks_107 : decode cX7_walks 107 = .ok (.goto (-64), 3) := by decide +kernel
theorem dX7_walks_110 : decode cX7_walks 110 = .ok (.aload_n 0, 1) := by decide +kernel
theorem dX7_walks_111 : decode cX7_walks 111 = .ok (.getfield 52, 3) := by decide +kernel
theorem dX7_walks_114 : decode cX7_walks 114 = .ok (.iload 8, 2) := by decide +kernel
theorem dX7_walks_116 : decode cX7_walks 116 = .ok (.dup2, 1) := by decide +kernel
theorem dX7_walks_117 : decode cX7_walks 117 = .ok (.iaload, 1) := by decide +kernel
theorem dX7_walks_118 : decode cX7_walks 118 = .ok (.iconst 1, 1) := by decide +kernel
theorem dX7_walks_119 : decode cX7_walks 119 = .ok (.iadd, 1) := by decide +kernel
theorem dX7_walks_120 : decode cX7_walks 120 = .ok (.iastore, 1) := by decide +kernel
theorem dX7_walks_121 : decode cX7_walks 121 = .ok (.aload_n 0, 1) := by decide +kernel
theorem dX7_walks_122 : decode cX7_walks 122 = .ok (.getfield 52, 3) := by decide +kernel
theorem dX7_walks_125 : decode cX7_walks 125 = .ok (.iload 8, 2) := by decide +kernel
theorem dX7_walks_127 : decode cX7_walks 127 = .ok (.iaload, 1) := by decide +kernel
theorem dX7_walks_128 : decode cX7_walks 128 = .ok (.iload 4, 2) := by decide +kernel
theorem dX7_walks_130 : decode cX7_walks 130 = .ok (.if_icmp .le 9, 3) := by decide +kernel
theorem dX7_walks_133 : decode cX7_walks 133 = .ok (.iinc 8 (-1), 3) := by decide +kernel
theorem dX7_walks_136 : decode cX7_walks 136 = .ok (.goto (-93), 3) := by decide +kernel
theorem dX7_walks_139 : decode cX7_walks 139 = .ok (.aload_n 0, 1) := by decide +kernel
theorem dX7_walks_140 : decode cX7_walks 140 = .ok (.iload_n 1, 1) := by decide +kernel
theorem dX7_walks_141 : decode cX7_walks 141 = .ok (.iload 8, 2) := by decide +kernel
theorem dX7_walks_143 : decode cX7_walks 143 = .ok (.iload_n 2, 1) := by decide +kernel
theorem dX7_walks_144 : decode cX7_walks 144 = .ok (.invokevirtual 130, 3) := by decide +kernel
theorem dX7_walks_147 : decode cX7_walks 147 = .ok (.ifCond .eq (-104), 3) := by decide +kernel
theorem dX7_walks_150 : decode cX7_walks 150 = .ok (.iinc 8 1, 3) := by decide +kernel
theorem dX7_walks_153 : decode cX7_walks 153 = .ok (.aload_n 0, 1) := by decide +kernel
theorem dX7_walks_154 : decode cX7_walks 154 = .ok (.getfield 52, 3) := by decide +kernel
theorem dX7_walks_157 : decode cX7_walks 157 = .ok (.iload 8, 2) := by decide +kernel
theorem dX7_walks_159 : decode cX7_walks 159 = .ok (.bipush 7, 2) := by decide +kernel
theorem dX7_walks_161 : decode cX7_walks 161 = .ok (.if_icmp .ge 8, 3) := by decide +kernel
theorem dX7_walks_164 : decode cX7_walks 164 = .ok (.iload 8, 2) := by decide +kernel
theorem dX7_walks_166 : decode cX7_walks 166 = .ok (.goto 4, 3) := by decide +kernel
theorem dX7_walks_169 : decode cX7_walks 169 = .ok (.iconst 0, 1) := by decide +kernel
theorem dX7_walks_170 : decode cX7_walks 170 = .ok (.iconst (-1), 1) := by decide +kernel
theorem dX7_walks_171 : decode cX7_walks 171 = .ok (.iastore, 1) := by decide +kernel
theorem dX7_walks_172 : decode cX7_walks 172 = .ok (.goto (-129), 3) := by decide +kernel
theorem dX7_walks_175 : decode cX7_walks 175 = .ok (.aload_n 0, 1) := by decide +kernel
theorem dX7_walks_176 : decode cX7_walks 176 = .ok (.getfield 42, 3) := by decide +kernel
theorem dX7_walks_179 : decode cX7_walks 179 = .ok (.iload 5, 2) := by decide +kernel
theorem dX7_walks_181 : decode cX7_walks 181 = .ok (.lload 6, 2) := by decide +kernel
theorem dX7_walks_183 : decode cX7_walks 183 = .ok (.lastore, 1) := by decide +kernel
theorem dX7_walks_184 : decode cX7_walks 184 = .ok (.aload_n 0, 1) := by decide +kernel
theorem dX7_walks_185 : decode cX7_walks 185 = .ok (.getfield 45, 3) := by decide +kernel
theorem dX7_walks_188 : decode cX7_walks 188 = .ok (.iload 5, 2) := by decide +kernel
theorem dX7_walks_190 : decode cX7_walks 190 = .ok (.aload_n 0, 1) := by decide +kernel
theorem dX7_walks_191 : decode cX7_walks 191 = .ok (.getfield 123, 3) := by decide +kernel
theorem dX7_walks_194 : decode cX7_walks 194 = .ok (.iastore, 1) := by decide +kernel
theorem dX7_walks_195 : decode cX7_walks 195 = .ok (.aload_n 0, 1) := by decide +kernel
theorem dX7_walks_196 : decode cX7_walks 196 = .ok (.getfield 48, 3) := by decide +kernel
theorem dX7_walks_199 : decode cX7_walks 199 = .ok (.iload 5, 2) := by decide +kernel
theorem dX7_walks_201 : decode cX7_walks 201 = .ok (.iconst 1, 1) := by decide +kernel
theorem dX7_walks_202 : decode cX7_walks 202 = .ok (.bastore, 1) := by decide +kernel
theorem dX7_walks_203 : decode cX7_walks 203 = .ok (.return_, 1) := by decide +kernel
set_option maxRecDepth 20000 in
theorem ggX7_finds_X7_walks : GoodIn wsX7_finds wsX7_walks := goodIn_r _ [7, 8, 9, 10, 11, 12, 13, 14, 1, 15, 16, 17, 6, 18, 19, 20, 21, 22, 23, 24, 25, 26, 27, 28, 29, 30, 31, 32, 33, 34, 35, 36, 37, 38, 39, 40, 41, 42, 43, 44, 45, 46, 47, 48, 49, 50, 51, 52, 53, 54, 55, 56, 57, 58, 59, 60, 61, 62, 63, 64, 65, 66, 67, 68, 69, 70, 71] (by decide +kernel) (by decide +kernel)
set_option maxRecDepth 20000 in
theorem gX7_finds_X7_walks : GoodIn wsX7_finds (wsV RX7 134 RX7 yX7_walks wsX7_walks) := goodIn_app (goodIn_of _ (by decide +kernel)) ggX7_finds_X7_walks
theorem dX7_finds_0 : decode cX7_finds 0 = .ok (.iconst 2, 1) := by decide +kernel
theorem dX7_finds_1 : decode cX7_finds 1 = .ok (.iload_n 1, 1) := by decide +kernel
theorem dX7_finds_2 : decode cX7_finds 2 = .ok (.imul, 1) := by decide +kernel
theorem dX7_finds_3 : decode cX7_finds 3 = .ok (.iload_n 2, 1) := by decide +kernel
theorem dX7_finds_4 : decode cX7_finds 4 = .ok (.ifCond .eq 7, 3) := by decide +kernel
theorem dX7_finds_7 : decode cX7_finds 7 = .ok (.iconst 1, 1) := by decide +kernel
theorem dX7_finds_8 : decode cX7_finds 8 = .ok (.goto 4, 3) := by decide +kernel
theorem dX7_finds_11 : decode cX7_finds 11 = .ok (.iconst 0, 1) := by decide +kernel
theorem dX7_finds_12 : decode cX7_finds 12 = .ok (.iadd, 1) := by decide +kernel
theorem dX7_finds_13 : decode cX7_finds 13 = .ok (.istore_n 3, 1) := by decide +kernel
theorem dX7_finds_14 : decode cX7_finds 14 = .ok (.aload_n 0, 1) := by decide +kernel
theorem dX7_finds_15 : decode cX7_finds 15 = .ok (.getfield 48, 3) := by decide +kernel
theorem dX7_finds_18 : decode cX7_finds 18 = .ok (.iload_n 3, 1) := by decide +kernel
theorem dX7_finds_19 : decode cX7_finds 19 = .ok (.baload, 1) := by decide +kernel
theorem dX7_finds_20 : decode cX7_finds 20 = .ok (.ifCond .ne 15, 3) := by decide +kernel
theorem dX7_finds_23 : decode cX7_finds 23 = .ok (.aload_n 0, 1) := by decide +kernel
theorem dX7_finds_24 : decode cX7_finds 24 = .ok (.iconst (-1), 1) := by decide +kernel
theorem dX7_finds_25 : decode cX7_finds 25 = .ok (.putfield 38, 3) := by decide +kernel
theorem dX7_finds_28 : decode cX7_finds 28 = .ok (.aload_n 0, 1) := by decide +kernel
theorem dX7_finds_29 : decode cX7_finds 29 = .ok (.iload_n 1, 1) := by decide +kernel
theorem dX7_finds_30 : decode cX7_finds 30 = .ok (.iload_n 2, 1) := by decide +kernel
theorem dX7_finds_31 : decode cX7_finds 31 = .ok (.iconst 0, 1) := by decide +kernel
theorem dX7_finds_32 : decode cX7_finds 32 = .ok (.invokevirtual 134, 3) := by decide +kernel
theorem dX7_finds_35 : decode cX7_finds 35 = .ok (.iload_n 3, 1) := by decide +kernel
theorem dX7_finds_36 : decode cX7_finds 36 = .ok (.ireturn, 1) := by decide +kernel
theorem dX7_sinks_0 : decode cX7_sinks 0 = .ok (.iload_n 1, 1) := by decide +kernel
theorem dX7_sinks_1 : decode cX7_sinks 1 = .ok (.istore_n 3, 1) := by decide +kernel
theorem dX7_sinks_2 : decode cX7_sinks 2 = .ok (.aload_n 0, 1) := by decide +kernel
theorem dX7_sinks_3 : decode cX7_sinks 3 = .ok (.getfield 35, 3) := by decide +kernel
theorem dX7_sinks_6 : decode cX7_sinks 6 = .ok (.iload_n 3, 1) := by decide +kernel
theorem dX7_sinks_7 : decode cX7_sinks 7 = .ok (.laload, 1) := by decide +kernel
theorem dX7_sinks_8 : decode cX7_sinks 8 = .ok (.lstore 4, 2) := by decide +kernel
theorem dX7_sinks_10 : decode cX7_sinks 10 = .ok (.iconst 0, 1) := by decide +kernel
theorem dX7_sinks_11 : decode cX7_sinks 11 = .ok (.istore 6, 2) := by decide +kernel
theorem dX7_sinks_13 : decode cX7_sinks 13 = .ok (.iload 6, 2) := by decide +kernel
theorem dX7_sinks_15 : decode cX7_sinks 15 = .ok (.ifCond .ne 102, 3) := by decide +kernel
theorem dX7_sinks_18 : decode cX7_sinks 18 = .ok (.iconst 2, 1) := by decide +kernel
theorem dX7_sinks_19 : decode cX7_sinks 19 = .ok (.iload_n 3, 1) := by decide +kernel
theorem dX7_sinks_20 : decode cX7_sinks 20 = .ok (.imul, 1) := by decide +kernel
theorem dX7_sinks_21 : decode cX7_sinks 21 = .ok (.iconst 1, 1) := by decide +kernel
theorem dX7_sinks_22 : decode cX7_sinks 22 = .ok (.iadd, 1) := by decide +kernel
theorem dX7_sinks_23 : decode cX7_sinks 23 = .ok (.iload_n 2, 1) := by decide +kernel
theorem dX7_sinks_24 : decode cX7_sinks 24 = .ok (.if_icmp .ge 93, 3) := by decide +kernel
theorem dX7_sinks_27 : decode cX7_sinks 27 = .ok (.iconst 2, 1) := by decide +kernel
theorem dX7_sinks_28 : decode cX7_sinks 28 = .ok (.iload_n 3, 1) := by decide +kernel
theorem dX7_sinks_29 : decode cX7_sinks 29 = .ok (.imul, 1) := by decide +kernel
theorem dX7_sinks_30 : decode cX7_sinks 30 = .ok (.iconst 1, 1) := by decide +kernel
theorem dX7_sinks_31 : decode cX7_sinks 31 = .ok (.iadd, 1) := by decide +kernel
theorem dX7_sinks_32 : decode cX7_sinks 32 = .ok (.istore 7, 2) := by decide +kernel
theorem dX7_sinks_34 : decode cX7_sinks 34 = .ok (.iload 7, 2) := by decide +kernel
theorem dX7_sinks_36 : decode cX7_sinks 36 = .ok (.iconst 1, 1) := by decide +kernel
theorem dX7_sinks_37 : decode cX7_sinks 37 = .ok (.iadd, 1) := by decide +kernel
theorem dX7_sinks_38 : decode cX7_sinks 38 = .ok (.iload_n 2, 1) := by decide +kernel
theorem dX7_sinks_39 : decode cX7_sinks 39 = .ok (.if_icmp .ge 30, 3) := by decide +kernel
theorem dX7_sinks_42 : decode cX7_sinks 42 = .ok (.aload_n 0, 1) := by decide +kernel
theorem dX7_sinks_43 : decode cX7_sinks 43 = .ok (.getfield 35, 3) := by decide +kernel
theorem dX7_sinks_46 : decode cX7_sinks 46 = .ok (.iload 7, 2) := by decide +kernel
theorem dX7_sinks_48 : decode cX7_sinks 48 = .ok (.iconst 1, 1) := by decide +kernel
theorem dX7_sinks_49 : decode cX7_sinks 49 = .ok (.iadd, 1) := by decide +kernel
theorem dX7_sinks_50 : decode cX7_sinks 50 = .ok (.laload, 1) := by decide +kernel
theorem dX7_sinks_51 : decode cX7_sinks 51 = .ok (.aload_n 0, 1) := by decide +kernel
theorem dX7_sinks_52 : decode cX7_sinks 52 = .ok (.getfield 35, 3) := by decide +kernel
theorem dX7_sinks_55 : decode cX7_sinks 55 = .ok (.iload 7, 2) := by decide +kernel
theorem dX7_sinks_57 : decode cX7_sinks 57 = .ok (.laload, 1) := by decide +kernel
theorem dX7_sinks_58 : decode cX7_sinks 58 = .ok (.lcmp, 1) := by decide +kernel
theorem dX7_sinks_59 : decode cX7_sinks 59 = .ok (.ifCond .le 10, 3) := by decide +kernel
theorem dX7_sinks_62 : decode cX7_sinks 62 = .ok (.iload 7, 2) := by decide +kernel
theorem dX7_sinks_64 : decode cX7_sinks 64 = .ok (.iconst 1, 1) := by decide +kernel
theorem dX7_sinks_65 : decode cX7_sinks 65 = .ok (.iadd, 1) := by decide +kernel
theorem dX7_sinks_66 : decode cX7_sinks 66 = .ok (.goto 5, 3) := by decide +kernel
theorem dX7_sinks_69 : decode cX7_sinks 69 = .ok (.iload 7, 2) := by decide +kernel
theorem dX7_sinks_71 : decode cX7_sinks 71 = .ok (.istore 7, 2) := by decide +kernel
theorem dX7_sinks_73 : decode cX7_sinks 73 = .ok (.aload_n 0, 1) := by decide +kernel
theorem dX7_sinks_74 : decode cX7_sinks 74 = .ok (.getfield 35, 3) := by decide +kernel
theorem dX7_sinks_77 : decode cX7_sinks 77 = .ok (.iload 7, 2) := by decide +kernel
theorem dX7_sinks_79 : decode cX7_sinks 79 = .ok (.laload, 1) := by decide +kernel
theorem dX7_sinks_80 : decode cX7_sinks 80 = .ok (.lload 4, 2) := by decide +kernel
theorem dX7_sinks_82 : decode cX7_sinks 82 = .ok (.lcmp, 1) := by decide +kernel
theorem dX7_sinks_83 : decode cX7_sinks 83 = .ok (.ifCond .gt 7, 3) := by decide +kernel
theorem dX7_sinks_86 : decode cX7_sinks 86 = .ok (.iconst 1, 1) := by decide +kernel
theorem dX7_sinks_87 : decode cX7_sinks 87 = .ok (.goto 4, 3) := by decide +kernel
theorem dX7_sinks_90 : decode cX7_sinks 90 = .ok (.iconst 0, 1) := by decide +kernel
theorem dX7_sinks_91 : decode cX7_sinks 91 = .ok (.istore 6, 2) := by decide +kernel
theorem dX7_sinks_93 : decode cX7_sinks 93 = .ok (.iload 6, 2) := by decide +kernel
theorem dX7_sinks_95 : decode cX7_sinks 95 = .ok (.ifCond .ne 19, 3) := by decide +kernel
theorem dX7_sinks_98 : decode cX7_sinks 98 = .ok (.aload_n 0, 1) := by decide +kernel
theorem dX7_sinks_99 : decode cX7_sinks 99 = .ok (.getfield 35, 3) := by decide +kernel
theorem dX7_sinks_102 : decode cX7_sinks 102 = .ok (.iload_n 3, 1) := by decide +kernel
theorem dX7_sinks_103 : decode cX7_sinks 103 = .ok (.aload_n 0, 1) := by decide +kernel
theorem dX7_sinks_104 : decode cX7_sinks 104 = .ok (.getfield 35, 3) := by decide +kernel
theorem dX7_sinks_107 : decode cX7_sinks 107 = .ok (.iload 7, 2) := by decide +kernel
theorem dX7_sinks_109 : decode cX7_sinks 109 = .ok (.laload, 1) := by decide +kernel
theorem dX7_sinks_110 : decode cX7_sinks 110 = .ok (.lastore, 1) := by decide +kernel
theorem dX7_sinks_111 : decode cX7_sinks 111 = .ok (.iload 7, 2) := by decide +kernel
theorem dX7_sinks_113 : decode cX7_sinks 113 = .ok (.istore_n 3, 1) := by decide +kernel
theorem dX7_sinks_114 : decode cX7_sinks 114 = .ok (.goto (-101), 3) := by decide +kernel
theorem dX7_sinks_117 : decode cX7_sinks 117 = .ok (.aload_n 0, 1) := by decide +kernel
theorem dX7_sinks_118 : decode cX7_sinks 118 = .ok (.getfield 35, 3) := by decide +kernel
theorem dX7_sinks_121 : decode cX7_sinks 121 = .ok (.iload_n 3, 1) := by decide +kernel
theorem dX7_sinks_122 : decode cX7_sinks 122 = .ok (.lload 4, 2) := by decide +kernel
theorem dX7_sinks_124 : decode cX7_sinks 124 = .ok (.lastore, 1) := by decide +kernel
theorem dX7_sinks_125 : decode cX7_sinks 125 = .ok (.return_, 1) := by decide +kernel
set_option maxRecDepth 20000 in
theorem ggX7_lists_X7_walks : GoodIn wsX7_lists wsX7_walks := goodIn_r _ [8, 9, 10, 2, 11, 3, 12, 13, 14, 15, 16, 17, 7, 18, 19, 20, 21, 22, 23, 24, 25, 26, 27, 28, 29, 30, 31, 32, 33, 34, 35, 36, 37, 38, 39, 40, 41, 42, 43, 44, 45, 46, 47, 48, 49, 50, 51, 56, 57, 58, 59, 60, 61, 62, 63, 64, 65, 66, 67, 68, 69, 70, 71, 72, 73, 74, 75] (by decide +kernel) (by decide +kernel)
set_option maxRecDepth 20000 in
theorem gX7_lists_X7_walks : GoodIn wsX7_lists (wsV RX7 134 RX7 yX7_walks wsX7_walks) := goodIn_app (goodIn_of _ (by decide +kernel)) ggX7_lists_X7_walks
set_option maxRecDepth 20000 in
theorem ggX7_lists_X7_sinks : GoodIn wsX7_lists wsX7_sinks := goodIn_r _ [55, 3, 56, 57, 58, 59, 60, 61, 62, 63, 64, 65, 66, 67, 68, 69, 70, 71, 72, 73, 74, 75] (by decide +kernel) (by decide +kernel)
set_option maxRecDepth 20000 in
theorem gX7_lists_X7_sinks : GoodIn wsX7_lists (wsV RX7 138 RX7 yX7_sinks wsX7_sinks) := goodIn_app (goodIn_of _ (by decide +kernel)) ggX7_lists_X7_sinks
theorem dX7_lists_0 : decode cX7_lists 0 = .ok (.iconst 2, 1) := by decide +kernel
theorem dX7_lists_1 : decode cX7_lists 1 = .ok (.iload_n 1, 1) := by decide +kernel
theorem dX7_lists_2 : decode cX7_lists 2 = .ok (.imul, 1) := by decide +kernel
theorem dX7_lists_3 : decode cX7_lists 3 = .ok (.iload_n 2, 1) := by decide +kernel
theorem dX7_lists_4 : decode cX7_lists 4 = .ok (.ifCond .eq 7, 3) := by decide +kernel
theorem dX7_lists_7 : decode cX7_lists 7 = .ok (.iconst 1, 1) := by decide +kernel
theorem dX7_lists_8 : decode cX7_lists 8 = .ok (.goto 4, 3) := by decide +kernel
theorem dX7_lists_11 : decode cX7_lists 11 = .ok (.iconst 0, 1) := by decide +kernel
theorem dX7_lists_12 : decode cX7_lists 12 = .ok (.iadd, 1) := by decide +kernel
theorem dX7_lists_13 : decode cX7_lists 13 = .ok (.istore_n 3, 1) := by decide +kernel
theorem dX7_lists_14 : decode cX7_lists 14 = .ok (.aload_n 0, 1) := by decide +kernel
theorem dX7_lists_15 : decode cX7_lists 15 = .ok (.getfield 38, 3) := by decide +kernel
theorem dX7_lists_18 : decode cX7_lists 18 = .ok (.iload_n 3, 1) := by decide +kernel
theorem dX7_lists_19 : decode cX7_lists 19 = .ok (.if_icmp .ne 4, 3) := by decide +kernel
theorem dX7_lists_22 : decode cX7_lists 22 = .ok (.return_, 1) := by decide +kernel
theorem dX7_lists_23 : decode cX7_lists 23 = .ok (.aload_n 0, 1) := by decide +kernel
theorem dX7_lists_24 : decode cX7_lists 24 = .ok (.iload_n 1, 1) := by decide +kernel
theorem dX7_lists_25 : decode cX7_lists 25 = .ok (.iload_n 2, 1) := by decide +kernel
theorem dX7_lists_26 : decode cX7_lists 26 = .ok (.iconst 1, 1) := by decide +kernel
theorem dX7_lists_27 : decode cX7_lists 27 = .ok (.invokevirtual 134, 3) := by decide +kernel
theorem dX7_lists_30 : decode cX7_lists 30 = .ok (.aload_n 0, 1) := by decide +kernel
theorem dX7_lists_31 : decode cX7_lists 31 = .ok (.iload_n 3, 1) := by decide +kernel
theorem dX7_lists_32 : decode cX7_lists 32 = .ok (.putfield 38, 3) := by decide +kernel
theorem dX7_lists_35 : decode cX7_lists 35 = .ok (.aload_n 0, 1) := by decide +kernel
theorem dX7_lists_36 : decode cX7_lists 36 = .ok (.getfield 123, 3) := by decide +kernel
theorem dX7_lists_39 : decode cX7_lists 39 = .ok (.iconst 2, 1) := by decide +kernel
theorem dX7_lists_40 : decode cX7_lists 40 = .ok (.idiv, 1) := by decide +kernel
theorem dX7_lists_41 : decode cX7_lists 41 = .ok (.iconst 1, 1) := by decide +kernel
theorem dX7_lists_42 : decode cX7_lists 42 = .ok (.isub, 1) := by decide +kernel
theorem dX7_lists_43 : decode cX7_lists 43 = .ok (.istore 4, 2) := by decide +kernel
theorem dX7_lists_45 : decode cX7_lists 45 = .ok (.iload 4, 2) := by decide +kernel
theorem dX7_lists_47 : decode cX7_lists 47 = .ok (.ifCond .lt 19, 3) := by decide +kernel
theorem dX7_lists_50 : decode cX7_lists 50 = .ok (.aload_n 0, 1) := by decide +kernel
theorem dX7_lists_51 : decode cX7_lists 51 = .ok (.iload 4, 2) := by decide +kernel
theorem dX7_lists_53 : decode cX7_lists 53 = .ok (.aload_n 0, 1) := by decide +kernel
theorem dX7_lists_54 : decode cX7_lists 54 = .ok (.getfield 123, 3) := by decide +kernel
theorem dX7_lists_57 : decode cX7_lists 57 = .ok (.invokevirtual 138, 3) := by decide +kernel
theorem dX7_lists_60 : decode cX7_lists 60 = .ok (.iinc 4 (-1), 3) := by decide +kernel
theorem dX7_lists_63 : decode cX7_lists 63 = .ok (.goto (-18), 3) := by decide +kernel
theorem dX7_lists_66 : decode cX7_lists 66 = .ok (.aload_n 0, 1) := by decide +kernel
theorem dX7_lists_67 : decode cX7_lists 67 = .ok (.getfield 123, 3) := by decide +kernel
theorem dX7_lists_70 : decode cX7_lists 70 = .ok (.iconst 1, 1) := by decide +kernel
theorem dX7_lists_71 : decode cX7_lists 71 = .ok (.isub, 1) := by decide +kernel
theorem dX7_lists_72 : decode cX7_lists 72 = .ok (.istore 4, 2) := by decide +kernel
theorem dX7_lists_74 : decode cX7_lists 74 = .ok (.iload 4, 2) := by decide +kernel
theorem dX7_lists_76 : decode cX7_lists 76 = .ok (.ifCond .le 46, 3) := by decide +kernel
theorem dX7_lists_79 : decode cX7_lists 79 = .ok (.aload_n 0, 1) := by decide +kernel
theorem dX7_lists_80 : decode cX7_lists 80 = .ok (.getfield 35, 3) := by decide +kernel
theorem dX7_lists_83 : decode cX7_lists 83 = .ok (.iload 4, 2) := by decide +kernel
theorem dX7_lists_85 : decode cX7_lists 85 = .ok (.laload, 1) := by decide +kernel
theorem dX7_lists_86 : decode cX7_lists 86 = .ok (.lstore 5, 2) := by decide +kernel
theorem dX7_lists_88 : decode cX7_lists 88 = .ok (.aload_n 0, 1) := by decide +kernel
theorem dX7_lists_89 : decode cX7_lists 89 = .ok (.getfield 35, 3) := by decide +kernel
theorem dX7_lists_92 : decode cX7_lists 92 = .ok (.iload 4, 2) := by decide +kernel
theorem dX7_lists_94 : decode cX7_lists 94 = .ok (.aload_n 0, 1) := by decide +kernel
theorem dX7_lists_95 : decode cX7_lists 95 = .ok (.getfield 35, 3) := by decide +kernel
theorem dX7_lists_98 : decode cX7_lists 98 = .ok (.iconst 0, 1) := by decide +kernel
theorem dX7_lists_99 : decode cX7_lists 99 = .ok (.laload, 1) := by decide +kernel
theorem dX7_lists_100 : decode cX7_lists 100 = .ok (.lastore, 1) := by decide +kernel
theorem dX7_lists_101 : decode cX7_lists 101 = .ok (.aload_n 0, 1) := by decide +kernel
theorem dX7_lists_102 : decode cX7_lists 102 = .ok (.getfield 35, 3) := by decide +kernel
theorem dX7_lists_105 : decode cX7_lists 105 = .ok (.iconst 0, 1) := by decide +kernel
theorem dX7_lists_106 : decode cX7_lists 106 = .ok (.lload 5, 2) := by decide +kernel
theorem dX7_lists_108 : decode cX7_lists 108 = .ok (.lastore, 1) := by decide +kernel
theorem dX7_lists_109 : decode cX7_lists 109 = .ok (.aload_n 0, 1) := by decide +kernel
theorem dX7_lists_110 : decode cX7_lists 110 = .ok (.iconst 0, 1) := by decide +kernel
theorem dX7_lists_111 : decode cX7_lists 111 = .ok (.iload 4, 2) := by decide +kernel
theorem dX7_lists_113 : decode cX7_lists 113 = .ok (.invokevirtual 138, 3) := by decide +kernel
theorem dX7_lists_116 : decode cX7_lists 116 = .ok (.iinc 4 (-1), 3) := by decide +kernel
theorem dX7_lists_119 : decode cX7_lists 119 = .ok (.goto (-45), 3) := by decide +kernel
theorem dX7_lists_122 : decode cX7_lists 122 = .ok (.return_, 1) := by decide +kernel
theorem dX7_scoreIn_0 : decode cX7_scoreIn 0 = .ok (.ldc 120, 2) := by decide +kernel
theorem dX7_scoreIn_2 : decode cX7_scoreIn 2 = .ok (.lload_n 1, 1) := by decide +kernel
theorem dX7_scoreIn_3 : decode cX7_scoreIn 3 = .ok (.bipush 18, 2) := by decide +kernel
theorem dX7_scoreIn_5 : decode cX7_scoreIn 5 = .ok (.lshr, 1) := by decide +kernel
theorem dX7_scoreIn_6 : decode cX7_scoreIn 6 = .ok (.l2i, 1) := by decide +kernel
theorem dX7_scoreIn_7 : decode cX7_scoreIn 7 = .ok (.isub, 1) := by decide +kernel
theorem dX7_scoreIn_8 : decode cX7_scoreIn 8 = .ok (.ireturn, 1) := by decide +kernel
theorem dX7_headIn_0 : decode cX7_headIn 0 = .ok (.lload_n 2, 1) := by decide +kernel
theorem dX7_headIn_1 : decode cX7_headIn 1 = .ok (.iconst 3, 1) := by decide +kernel
theorem dX7_headIn_2 : decode cX7_headIn 2 = .ok (.aload_n 0, 1) := by decide +kernel
theorem dX7_headIn_3 : decode cX7_headIn 3 = .ok (.getfield 7, 3) := by decide +kernel
theorem dX7_headIn_6 : decode cX7_headIn 6 = .ok (.iload_n 1, 1) := by decide +kernel
theorem dX7_headIn_7 : decode cX7_headIn 7 = .ok (.iaload, 1) := by decide +kernel
theorem dX7_headIn_8 : decode cX7_headIn 8 = .ok (.iload 4, 2) := by decide +kernel
theorem dX7_headIn_10 : decode cX7_headIn 10 = .ok (.isub, 1) := by decide +kernel
theorem dX7_headIn_11 : decode cX7_headIn 11 = .ok (.imul, 1) := by decide +kernel
theorem dX7_headIn_12 : decode cX7_headIn 12 = .ok (.lshr, 1) := by decide +kernel
theorem dX7_headIn_13 : decode cX7_headIn 13 = .ok (.ldc2_w 142, 3) := by decide +kernel
theorem dX7_headIn_16 : decode cX7_headIn 16 = .ok (.land, 1) := by decide +kernel
theorem dX7_headIn_17 : decode cX7_headIn 17 = .ok (.l2i, 1) := by decide +kernel
theorem dX7_headIn_18 : decode cX7_headIn 18 = .ok (.ireturn, 1) := by decide +kernel
set_option maxRecDepth 20000 in
theorem ggX7_trees_X7_isSentence : GoodIn wsX7_trees wsX7_isSentence := goodIn_r _ [6, 7, 66, 67, 68, 69, 70, 71, 72, 73, 74, 75, 76, 77, 78, 79, 80, 81, 82, 83, 84, 85] (by decide +kernel) (by decide +kernel)
set_option maxRecDepth 20000 in
theorem gX7_trees_X7_isSentence : GoodIn wsX7_trees (wsV RX7 61 RX7 yX7_isSentence wsX7_isSentence) := goodIn_app (goodIn_of _ (by decide +kernel)) ggX7_trees_X7_isSentence
set_option maxRecDepth 20000 in
theorem ggX7_trees_X7_asks : GoodIn wsX7_trees wsX7_asks := goodIn_r _ [11, 12, 66, 67, 68, 69, 70, 71, 72, 73, 74, 75, 76, 77, 78, 79, 80, 81, 82, 83, 84, 85] (by decide +kernel) (by decide +kernel)
set_option maxRecDepth 20000 in
theorem gX7_trees_X7_asks : GoodIn wsX7_trees (wsV RX7 65 RX7 yX7_asks wsX7_asks) := goodIn_app (goodIn_of _ (by decide +kernel)) ggX7_trees_X7_asks
set_option maxRecDepth 20000 in
theorem ggX7_trees_X7_finds : GoodIn wsX7_trees wsX7_finds := goodIn_r _ [16, 17, 18, 19, 20, 21, 5, 22, 23, 24, 25, 26, 27, 28, 1, 29, 30, 31, 32, 33, 34, 35, 36, 37, 38, 39, 40, 41, 42, 43, 44, 45, 46, 47, 48, 49, 50, 51, 52, 53, 54, 55, 56, 57, 58, 59, 60, 61, 62, 63, 64, 65, 66, 67, 68, 69, 70, 71, 72, 73, 74, 75, 76, 77, 78, 79, 80, 81, 82, 83, 84, 85] (by decide +kernel) (by decide +kernel)
set_option maxRecDepth 20000 in
theorem gX7_trees_X7_finds : GoodIn wsX7_trees (wsV RX7 144 RX7 yX7_finds wsX7_finds) := goodIn_app (goodIn_of _ (by decide +kernel)) ggX7_trees_X7_finds
theorem dX7_trees_0 : decode cX7_trees 0 = .ok (.aload_n 0, 1) := by decide +kernel
theorem dX7_trees_1 : decode cX7_trees 1 = .ok (.aload_n 0, 1) := by decide +kernel
theorem dX7_trees_2 : decode cX7_trees 2 = .ok (.iload_n 1, 1) := by decide +kernel
theorem dX7_trees_3 : decode cX7_trees 3 = .ok (.invokevirtual 61, 3) := by decide +kernel
theorem dX7_trees_6 : decode cX7_trees 6 = .ok (.invokevirtual 65, 3) := by decide +kernel
theorem dX7_trees_9 : decode cX7_trees 9 = .ok (.ifCond .eq 17, 3) := by decide +kernel
theorem dX7_trees_12 : decode cX7_trees 12 = .ok (.aload_n 0, 1) := by decide +kernel
theorem dX7_trees_13 : decode cX7_trees 13 = .ok (.getfield 45, 3) := by decide +kernel
theorem dX7_trees_16 : decode cX7_trees 16 = .ok (.aload_n 0, 1) := by decide +kernel
theorem dX7_trees_17 : decode cX7_trees 17 = .ok (.iload_n 1, 1) := by decide +kernel
theorem dX7_trees_18 : decode cX7_trees 18 = .ok (.iload_n 2, 1) := by decide +kernel
theorem dX7_trees_19 : decode cX7_trees 19 = .ok (.invokevirtual 144, 3) := by decide +kernel
theorem dX7_trees_22 : decode cX7_trees 22 = .ok (.iaload, 1) := by decide +kernel
theorem dX7_trees_23 : decode cX7_trees 23 = .ok (.goto 4, 3) := by decide +kernel
theorem dX7_trees_26 : decode cX7_trees 26 = .ok (.iconst 0, 1) := by decide +kernel
theorem dX7_trees_27 : decode cX7_trees 27 = .ok (.ireturn, 1) := by decide +kernel
set_option maxRecDepth 20000 in
theorem ggX7_asksTree_X7_isSentence : GoodIn wsX7_asksTree wsX7_isSentence := goodIn_r _ [7, 8, 66, 67, 68, 69, 70, 71, 72, 73, 74, 75, 76, 77, 78, 79, 80, 81, 82, 83, 84, 85] (by decide +kernel) (by decide +kernel)
set_option maxRecDepth 20000 in
theorem gX7_asksTree_X7_isSentence : GoodIn wsX7_asksTree (wsV RX7 61 RX7 yX7_isSentence wsX7_isSentence) := goodIn_app (goodIn_of _ (by decide +kernel)) ggX7_asksTree_X7_isSentence
set_option maxRecDepth 20000 in
theorem ggX7_asksTree_X7_asks : GoodIn wsX7_asksTree wsX7_asks := goodIn_r _ [12, 2, 66, 67, 68, 69, 70, 71, 72, 73, 74, 75, 76, 77, 78, 79, 80, 81, 82, 83, 84, 85] (by decide +kernel) (by decide +kernel)
set_option maxRecDepth 20000 in
theorem gX7_asksTree_X7_asks : GoodIn wsX7_asksTree (wsV RX7 65 RX7 yX7_asks wsX7_asks) := goodIn_app (goodIn_of _ (by decide +kernel)) ggX7_asksTree_X7_asks
set_option maxRecDepth 20000 in
theorem ggX7_asksTree_X7_finds : GoodIn wsX7_asksTree wsX7_finds := goodIn_r _ [16, 17, 18, 19, 20, 21, 6, 22, 23, 24, 25, 26, 27, 28, 1, 29, 30, 31, 32, 33, 34, 35, 36, 37, 38, 39, 40, 41, 42, 43, 44, 45, 46, 47, 48, 49, 50, 51, 52, 53, 54, 55, 56, 57, 58, 59, 60, 61, 62, 63, 64, 65, 66, 67, 68, 69, 70, 71, 72, 73, 74, 75, 76, 77, 78, 79, 80, 81, 82, 83, 84, 85] (by decide +kernel) (by decide +kernel)
set_option maxRecDepth 20000 in
theorem gX7_asksTree_X7_finds : GoodIn wsX7_asksTree (wsV RX7 144 RX7 yX7_finds wsX7_finds) := goodIn_app (goodIn_of _ (by decide +kernel)) ggX7_asksTree_X7_finds
theorem dX7_asksTree_0 : decode cX7_asksTree 0 = .ok (.aload_n 0, 1) := by decide +kernel
theorem dX7_asksTree_1 : decode cX7_asksTree 1 = .ok (.aload_n 0, 1) := by decide +kernel
theorem dX7_asksTree_2 : decode cX7_asksTree 2 = .ok (.iload_n 1, 1) := by decide +kernel
theorem dX7_asksTree_3 : decode cX7_asksTree 3 = .ok (.invokevirtual 61, 3) := by decide +kernel
theorem dX7_asksTree_6 : decode cX7_asksTree 6 = .ok (.invokevirtual 65, 3) := by decide +kernel
theorem dX7_asksTree_9 : decode cX7_asksTree 9 = .ok (.ifCond .ne 5, 3) := by decide +kernel
theorem dX7_asksTree_12 : decode cX7_asksTree 12 = .ok (.iconst 0, 1) := by decide +kernel
theorem dX7_asksTree_13 : decode cX7_asksTree 13 = .ok (.ireturn, 1) := by decide +kernel
theorem dX7_asksTree_14 : decode cX7_asksTree 14 = .ok (.aload_n 0, 1) := by decide +kernel
theorem dX7_asksTree_15 : decode cX7_asksTree 15 = .ok (.aload_n 0, 1) := by decide +kernel
theorem dX7_asksTree_16 : decode cX7_asksTree 16 = .ok (.getfield 45, 3) := by decide +kernel
theorem dX7_asksTree_19 : decode cX7_asksTree 19 = .ok (.aload_n 0, 1) := by decide +kernel
theorem dX7_asksTree_20 : decode cX7_asksTree 20 = .ok (.iload_n 1, 1) := by decide +kernel
theorem dX7_asksTree_21 : decode cX7_asksTree 21 = .ok (.iload_n 2, 1) := by decide +kernel
theorem dX7_asksTree_22 : decode cX7_asksTree 22 = .ok (.invokevirtual 144, 3) := by decide +kernel
theorem dX7_asksTree_25 : decode cX7_asksTree 25 = .ok (.iaload, 1) := by decide +kernel
theorem dX7_asksTree_26 : decode cX7_asksTree 26 = .ok (.ifCond .ne 7, 3) := by decide +kernel
theorem dX7_asksTree_29 : decode cX7_asksTree 29 = .ok (.iconst 2, 1) := by decide +kernel
theorem dX7_asksTree_30 : decode cX7_asksTree 30 = .ok (.goto 4, 3) := by decide +kernel
theorem dX7_asksTree_33 : decode cX7_asksTree 33 = .ok (.iconst 0, 1) := by decide +kernel
theorem dX7_asksTree_34 : decode cX7_asksTree 34 = .ok (.putfield 55, 3) := by decide +kernel
theorem dX7_asksTree_37 : decode cX7_asksTree 37 = .ok (.aload_n 0, 1) := by decide +kernel
theorem dX7_asksTree_38 : decode cX7_asksTree 38 = .ok (.getfield 55, 3) := by decide +kernel
theorem dX7_asksTree_41 : decode cX7_asksTree 41 = .ok (.ifCond .ne 7, 3) := by decide +kernel
theorem dX7_asksTree_44 : decode cX7_asksTree 44 = .ok (.iconst 1, 1) := by decide +kernel
theorem dX7_asksTree_45 : decode cX7_asksTree 45 = .ok (.goto 4, 3) := by decide +kernel
theorem dX7_asksTree_48 : decode cX7_asksTree 48 = .ok (.iconst 0, 1) := by decide +kernel
theorem dX7_asksTree_49 : decode cX7_asksTree 49 = .ok (.ireturn, 1) := by decide +kernel
set_option maxRecDepth 20000 in
theorem ggX7_best_X7_asksTree : GoodIn wsX7_best wsX7_asksTree := goodIn_r _ [6, 7, 8, 9, 10, 11, 5, 12, 13, 14, 15, 16, 17, 18, 19, 20, 21, 22, 23, 24, 25, 26, 27, 28, 29, 30, 31, 32, 1, 33, 34, 35, 36, 37, 38, 39, 40, 41, 42, 43, 44, 45, 46, 47, 48, 49, 50, 51, 52, 53, 54, 55, 56, 57, 58, 59, 60, 61, 62, 63, 64, 65, 66, 67, 68, 69, 74, 75, 76, 77, 78, 79, 80, 81, 82, 83, 84, 85, 86, 87, 88, 89, 90, 91, 92, 93] (by decide +kernel) (by decide +kernel)
set_option maxRecDepth 20000 in
theorem gX7_best_X7_asksTree : GoodIn wsX7_best (wsV RX7 148 RX7 yX7_asksTree wsX7_asksTree) := goodIn_app (goodIn_of _ (by decide +kernel)) ggX7_best_X7_asksTree
set_option maxRecDepth 20000 in
theorem ggX7_best_X7_finds : GoodIn wsX7_best wsX7_finds := goodIn_r _ [21, 22, 23, 24, 25, 26, 5, 27, 28, 29, 30, 31, 32, 1, 7, 33, 34, 35, 36, 37, 38, 39, 40, 41, 42, 43, 44, 45, 46, 47, 48, 49, 50, 51, 52, 53, 54, 55, 56, 57, 58, 59, 60, 61, 62, 63, 64, 65, 66, 67, 68, 69, 74, 75, 76, 77, 78, 79, 80, 81, 82, 83, 84, 85, 86, 87, 88, 89, 90, 91, 92, 93] (by decide +kernel) (by decide +kernel)
set_option maxRecDepth 20000 in
theorem gX7_best_X7_finds : GoodIn wsX7_best (wsV RX7 144 RX7 yX7_finds wsX7_finds) := goodIn_app (goodIn_of _ (by decide +kernel)) ggX7_best_X7_finds
set_option maxRecDepth 20000 in
theorem ggX7_best_X7_scoreIn : GoodIn wsX7_best wsX7_scoreIn := goodIn_r _ [73, 37] (by decide +kernel) (by decide +kernel)
set_option maxRecDepth 20000 in
theorem gX7_best_X7_scoreIn : GoodIn wsX7_best (wsV RX7 152 RX7 yX7_scoreIn wsX7_scoreIn) := goodIn_app (goodIn_of _ (by decide +kernel)) ggX7_best_X7_scoreIn
theorem dX7_best_0 : decode cX7_best 0 = .ok (.aload_n 0, 1) := by decide +kernel
theorem dX7_best_1 : decode cX7_best 1 = .ok (.iload_n 1, 1) := by decide +kernel
theorem dX7_best_2 : decode cX7_best 2 = .ok (.iload_n 2, 1) := by decide +kernel
theorem dX7_best_3 : decode cX7_best 3 = .ok (.invokevirtual 148, 3) := by decide +kernel
theorem dX7_best_6 : decode cX7_best 6 = .ok (.ifCond .eq 21, 3) := by decide +kernel
theorem dX7_best_9 : decode cX7_best 9 = .ok (.aload_n 0, 1) := by decide +kernel
theorem dX7_best_10 : decode cX7_best 10 = .ok (.aload_n 0, 1) := by decide +kernel
theorem dX7_best_11 : decode cX7_best 11 = .ok (.getfield 42, 3) := by decide +kernel
theorem dX7_best_14 : decode cX7_best 14 = .ok (.aload_n 0, 1) := by decide +kernel
theorem dX7_best_15 : decode cX7_best 15 = .ok (.iload_n 1, 1) := by decide +kernel
theorem dX7_best_16 : decode cX7_best 16 = .ok (.iload_n 2, 1) := by decide +kernel
theorem dX7_best_17 : decode cX7_best 17 = .ok (.invokevirtual 144, 3) := by decide +kernel
theorem dX7_best_20 : decode cX7_best 20 = .ok (.laload, 1) := by decide +kernel
theorem dX7_best_21 : decode cX7_best 21 = .ok (.invokevirtual 152, 3) := by decide +kernel
theorem dX7_best_24 : decode cX7_best 24 = .ok (.goto 4, 3) := by decide +kernel
theorem dX7_best_27 : decode cX7_best 27 = .ok (.iconst 0, 1) := by decide +kernel
theorem dX7_best_28 : decode cX7_best 28 = .ok (.ireturn, 1) := by decide +kernel
set_option maxRecDepth 20000 in
theorem ggX7_bestByTrying_X7_asksTree : GoodIn wsX7_bestByTrying wsX7_asksTree := goodIn_r _ [6, 7, 8, 9, 10, 11, 5, 12, 13, 14, 15, 16, 17, 18, 19, 20, 21, 22, 23, 24, 25, 26, 27, 28, 29, 30, 31, 32, 1, 33, 34, 35, 36, 37, 38, 39, 40, 41, 42, 43, 44, 45, 46, 47, 48, 49, 50, 51, 52, 53, 54, 55, 56, 57, 58, 59, 60, 61, 62, 63, 64, 65, 66, 67, 68, 69, 74, 75, 76, 77, 78, 79, 80, 81, 82, 83, 84, 85, 86, 87, 88, 89, 90, 91, 92, 93] (by decide +kernel) (by decide +kernel)
set_option maxRecDepth 20000 in
theorem gX7_bestByTrying_X7_asksTree : GoodIn wsX7_bestByTrying (wsV RX7 148 RX7 yX7_asksTree wsX7_asksTree) := goodIn_app (goodIn_of _ (by decide +kernel)) ggX7_bestByTrying_X7_asksTree
set_option maxRecDepth 20000 in
theorem ggX7_bestByTrying_X7_finds : GoodIn wsX7_bestByTrying wsX7_finds := goodIn_r _ [21, 22, 23, 24, 25, 26, 5, 27, 28, 29, 30, 31, 32, 1, 7, 33, 34, 35, 36, 37, 38, 39, 40, 41, 42, 43, 44, 45, 46, 47, 48, 49, 50, 51, 52, 53, 54, 55, 56, 57, 58, 59, 60, 61, 62, 63, 64, 65, 66, 67, 68, 69, 74, 75, 76, 77, 78, 79, 80, 81, 82, 83, 84, 85, 86, 87, 88, 89, 90, 91, 92, 93] (by decide +kernel) (by decide +kernel)
set_option maxRecDepth 20000 in
theorem gX7_bestByTrying_X7_finds : GoodIn wsX7_bestByTrying (wsV RX7 144 RX7 yX7_finds wsX7_finds) := goodIn_app (goodIn_of _ (by decide +kernel)) ggX7_bestByTrying_X7_finds
set_option maxRecDepth 20000 in
theorem ggX7_bestByTrying_X7_scoreIn : GoodIn wsX7_bestByTrying wsX7_scoreIn := goodIn_r _ [73, 37] (by decide +kernel) (by decide +kernel)
set_option maxRecDepth 20000 in
theorem gX7_bestByTrying_X7_scoreIn : GoodIn wsX7_bestByTrying (wsV RX7 152 RX7 yX7_scoreIn wsX7_scoreIn) := goodIn_app (goodIn_of _ (by decide +kernel)) ggX7_bestByTrying_X7_scoreIn
theorem dX7_bestByTrying_0 : decode cX7_bestByTrying 0 = .ok (.aload_n 0, 1) := by decide +kernel
theorem dX7_bestByTrying_1 : decode cX7_bestByTrying 1 = .ok (.iload_n 1, 1) := by decide +kernel
theorem dX7_bestByTrying_2 : decode cX7_bestByTrying 2 = .ok (.iload_n 2, 1) := by decide +kernel
theorem dX7_bestByTrying_3 : decode cX7_bestByTrying 3 = .ok (.invokevirtual 148, 3) := by decide +kernel
theorem dX7_bestByTrying_6 : decode cX7_bestByTrying 6 = .ok (.ifCond .eq 21, 3) := by decide +kernel
theorem dX7_bestByTrying_9 : decode cX7_bestByTrying 9 = .ok (.aload_n 0, 1) := by decide +kernel
theorem dX7_bestByTrying_10 : decode cX7_bestByTrying 10 = .ok (.aload_n 0, 1) := by decide +kernel
theorem dX7_bestByTrying_11 : decode cX7_bestByTrying 11 = .ok (.getfield 42, 3) := by decide +kernel
theorem dX7_bestByTrying_14 : decode cX7_bestByTrying 14 = .ok (.aload_n 0, 1) := by decide +kernel
theorem dX7_bestByTrying_15 : decode cX7_bestByTrying 15 = .ok (.iload_n 1, 1) := by decide +kernel
theorem dX7_bestByTrying_16 : decode cX7_bestByTrying 16 = .ok (.iload_n 2, 1) := by decide +kernel
theorem dX7_bestByTrying_17 : decode cX7_bestByTrying 17 = .ok (.invokevirtual 144, 3) := by decide +kernel
theorem dX7_bestByTrying_20 : decode cX7_bestByTrying 20 = .ok (.laload, 1) := by decide +kernel
theorem dX7_bestByTrying_21 : decode cX7_bestByTrying 21 = .ok (.invokevirtual 152, 3) := by decide +kernel
theorem dX7_bestByTrying_24 : decode cX7_bestByTrying 24 = .ok (.goto 4, 3) := by decide +kernel
theorem dX7_bestByTrying_27 : decode cX7_bestByTrying 27 = .ok (.iconst 0, 1) := by decide +kernel
theorem dX7_bestByTrying_28 : decode cX7_bestByTrying 28 = .ok (.ireturn, 1) := by decide +kernel
set_option maxRecDepth 20000 in
theorem ggX7_head_X7_isWord : GoodIn wsX7_head wsX7_isWord := goodIn_r _ [6, 7, 8, 9, 10, 5, 11, 12, 79, 80, 81, 82, 83, 84, 85, 86, 87, 88, 89, 90, 91, 92, 93, 94, 95, 96, 97, 98] (by decide +kernel) (by decide +kernel)
set_option maxRecDepth 20000 in
theorem gX7_head_X7_isWord : GoodIn wsX7_head (wsV RX7 76 RX7 yX7_isWord wsX7_isWord) := goodIn_app (goodIn_of _ (by decide +kernel)) ggX7_head_X7_isWord
set_option maxRecDepth 20000 in
theorem ggX7_head_X7_asks : GoodIn wsX7_head wsX7_asks := goodIn_r _ [16, 17, 79, 80, 81, 82, 83, 84, 85, 86, 87, 88, 89, 90, 91, 92, 93, 94, 95, 96, 97, 98] (by decide +kernel) (by decide +kernel)
set_option maxRecDepth 20000 in
theorem gX7_head_X7_asks : GoodIn wsX7_head (wsV RX7 65 RX7 yX7_asks wsX7_asks) := goodIn_app (goodIn_of _ (by decide +kernel)) ggX7_head_X7_asks
set_option maxRecDepth 20000 in
theorem ggX7_head_X7_asksTree : GoodIn wsX7_head wsX7_asksTree := goodIn_r _ [21, 22, 17, 8, 9, 10, 5, 11, 12, 13, 14, 15, 16, 23, 24, 25, 26, 27, 28, 29, 30, 31, 32, 7, 33, 34, 35, 36, 1, 37, 38, 39, 40, 41, 42, 43, 44, 45, 46, 47, 48, 49, 50, 51, 52, 53, 54, 55, 56, 57, 58, 59, 60, 61, 62, 63, 64, 65, 66, 67, 68, 69, 70, 71, 72, 73, 79, 80, 81, 82, 83, 84, 85, 86, 87, 88, 89, 90, 91, 92, 93, 94, 95, 96, 97, 98] (by decide +kernel) (by decide +kernel)
set_option maxRecDepth 20000 in
theorem gX7_head_X7_asksTree : GoodIn wsX7_head (wsV RX7 148 RX7 yX7_asksTree wsX7_asksTree) := goodIn_app (goodIn_of _ (by decide +kernel)) ggX7_head_X7_asksTree
set_option maxRecDepth 20000 in
theorem ggX7_head_X7_finds : GoodIn wsX7_head wsX7_finds := goodIn_r _ [26, 27, 28, 29, 30, 31, 5, 32, 7, 33, 34, 35, 36, 1, 22, 37, 38, 39, 40, 41, 42, 43, 44, 45, 46, 47, 48, 49, 50, 51, 52, 53, 54, 55, 56, 57, 58, 59, 60, 61, 62, 63, 64, 65, 66, 67, 68, 69, 70, 71, 72, 73, 79, 80, 81, 82, 83, 84, 85, 86, 87, 88, 89, 90, 91, 92, 93, 94, 95, 96, 97, 98] (by decide +kernel) (by decide +kernel)
set_option maxRecDepth 20000 in
theorem gX7_head_X7_finds : GoodIn wsX7_head (wsV RX7 144 RX7 yX7_finds wsX7_finds) := goodIn_app (goodIn_of _ (by decide +kernel)) ggX7_head_X7_finds
set_option maxRecDepth 20000 in
theorem ggX7_head_X7_headIn : GoodIn wsX7_head wsX7_headIn := goodIn_r _ [77, 7, 78, 79, 80, 81, 82, 83, 84, 85, 86, 87, 88, 89, 90, 91, 92, 93, 94, 95, 96, 97, 98] (by decide +kernel) (by decide +kernel)
set_option maxRecDepth 20000 in
theorem gX7_head_X7_headIn : GoodIn wsX7_head (wsV RX7 156 RX7 yX7_headIn wsX7_headIn) := goodIn_app (goodIn_of _ (by decide +kernel)) ggX7_head_X7_headIn
theorem dX7_head_0 : decode cX7_head 0 = .ok (.aload_n 0, 1) := by decide +kernel
theorem dX7_head_1 : decode cX7_head 1 = .ok (.aload_n 0, 1) := by decide +kernel
theorem dX7_head_2 : decode cX7_head 2 = .ok (.iload_n 1, 1) := by decide +kernel
theorem dX7_head_3 : decode cX7_head 3 = .ok (.iload_n 3, 1) := by decide +kernel
theorem dX7_head_4 : decode cX7_head 4 = .ok (.invokevirtual 76, 3) := by decide +kernel
theorem dX7_head_7 : decode cX7_head 7 = .ok (.invokevirtual 65, 3) := by decide +kernel
theorem dX7_head_10 : decode cX7_head 10 = .ok (.ifCond .ne 5, 3) := by decide +kernel
theorem dX7_head_13 : decode cX7_head 13 = .ok (.iconst 0, 1) := by decide +kernel
theorem dX7_head_14 : decode cX7_head 14 = .ok (.ireturn, 1) := by decide +kernel
theorem dX7_head_15 : decode cX7_head 15 = .ok (.aload_n 0, 1) := by decide +kernel
theorem dX7_head_16 : decode cX7_head 16 = .ok (.iload_n 1, 1) := by decide +kernel
theorem dX7_head_17 : decode cX7_head 17 = .ok (.iload_n 2, 1) := by decide +kernel
theorem dX7_head_18 : decode cX7_head 18 = .ok (.invokevirtual 148, 3) := by decide +kernel
theorem dX7_head_21 : decode cX7_head 21 = .ok (.ifCond .eq 23, 3) := by decide +kernel
theorem dX7_head_24 : decode cX7_head 24 = .ok (.aload_n 0, 1) := by decide +kernel
theorem dX7_head_25 : decode cX7_head 25 = .ok (.iload_n 1, 1) := by decide +kernel
theorem dX7_head_26 : decode cX7_head 26 = .ok (.aload_n 0, 1) := by decide +kernel
theorem dX7_head_27 : decode cX7_head 27 = .ok (.getfield 42, 3) := by decide +kernel
theorem dX7_head_30 : decode cX7_head 30 = .ok (.aload_n 0, 1) := by decide +kernel
theorem dX7_head_31 : decode cX7_head 31 = .ok (.iload_n 1, 1) := by decide +kernel
theorem dX7_head_32 : decode cX7_head 32 = .ok (.iload_n 2, 1) := by decide +kernel
theorem dX7_head_33 : decode cX7_head 33 = .ok (.invokevirtual 144, 3) := by decide +kernel
theorem dX7_head_36 : decode cX7_head 36 = .ok (.laload, 1) := by decide +kernel
theorem dX7_head_37 : decode cX7_head 37 = .ok (.iload_n 3, 1) := by decide +kernel
theorem dX7_head_38 : decode cX7_head 38 = .ok (.invokevirtual 156, 3) := by decide +kernel
theorem dX7_head_41 : decode cX7_head 41 = .ok (.goto 4, 3) := by decide +kernel
theorem dX7_head_44 : decode cX7_head 44 = .ok (.iconst 0, 1) := by decide +kernel
theorem dX7_head_45 : decode cX7_head 45 = .ok (.ireturn, 1) := by decide +kernel
set_option maxRecDepth 20000 in
theorem ggX7_crossings_X7_asksTree : GoodIn wsX7_crossings wsX7_asksTree := goodIn_r _ [8, 9, 10, 11, 12, 13, 7, 14, 15, 16, 17, 18, 19, 20, 21, 22, 23, 24, 25, 26, 27, 28, 29, 2, 30, 31, 3, 32, 1, 33, 34, 35, 36, 37, 38, 39, 40, 41, 42, 43, 44, 45, 46, 47, 48, 49, 50, 51, 52, 53, 54, 55, 56, 57, 58, 59, 60, 61, 62, 63, 64, 65, 66, 67, 68, 69, 75, 76, 77, 78, 79, 80, 81, 82, 83, 84, 85, 86, 87, 88, 89, 90, 91, 92, 93, 94] (by decide +kernel) (by decide +kernel)
set_option maxRecDepth 20000 in
theorem gX7_crossings_X7_asksTree : GoodIn wsX7_crossings (wsV RX7 148 RX7 yX7_asksTree wsX7_asksTree) := goodIn_app (goodIn_of _ (by decide +kernel)) ggX7_crossings_X7_asksTree
set_option maxRecDepth 20000 in
theorem ggX7_crossings_X7_finds : GoodIn wsX7_crossings wsX7_finds := goodIn_r _ [23, 24, 25, 26, 27, 28, 7, 29, 2, 30, 31, 3, 32, 1, 9, 33, 34, 35, 36, 37, 38, 39, 40, 41, 42, 43, 44, 45, 46, 47, 48, 49, 50, 51, 52, 53, 54, 55, 56, 57, 58, 59, 60, 61, 62, 63, 64, 65, 66, 67, 68, 69, 75, 76, 77, 78, 79, 80, 81, 82, 83, 84, 85, 86, 87, 88, 89, 90, 91, 92, 93, 94] (by decide +kernel) (by decide +kernel)
set_option maxRecDepth 20000 in
theorem gX7_crossings_X7_finds : GoodIn wsX7_crossings (wsV RX7 144 RX7 yX7_finds wsX7_finds) := goodIn_app (goodIn_of _ (by decide +kernel)) ggX7_crossings_X7_finds
set_option maxRecDepth 20000 in
theorem ggX7_crossings_X7_headIn : GoodIn wsX7_crossings wsX7_headIn := goodIn_r _ [73, 2, 74, 75, 76, 77, 78, 79, 80, 81, 82, 83, 84, 85, 86, 87, 88, 89, 90, 91, 92, 93, 94] (by decide +kernel) (by decide +kernel)
set_option maxRecDepth 20000 in
theorem gX7_crossings_X7_headIn : GoodIn wsX7_crossings (wsV RX7 156 RX7 yX7_headIn wsX7_headIn) := goodIn_app (goodIn_of _ (by decide +kernel)) ggX7_crossings_X7_headIn
set_option maxRecDepth 20000 in
theorem ggX7_crossings_X7_doCross : GoodIn wsX7_crossings wsX7_doCross := goodIn_r _ [63, 3, 64, 65, 7, 66, 67, 68, 69, 75, 76, 77, 78, 79, 80, 81, 82, 83, 84, 85, 86, 87, 88, 89, 90, 91, 92, 93, 94] (by decide +kernel) (by decide +kernel)
set_option maxRecDepth 20000 in
theorem gX7_crossings_X7_doCross : GoodIn wsX7_crossings (wsV RX7 117 RX7 yX7_doCross wsX7_doCross) := goodIn_app (goodIn_of _ (by decide +kernel)) ggX7_crossings_X7_doCross
theorem dX7_crossings_0 : decode cX7_crossings 0 = .ok (.aload_n 0, 1) := by decide +kernel
theorem dX7_crossings_1 : decode cX7_crossings 1 = .ok (.iload_n 1, 1) := by decide +kernel
theorem dX7_crossings_2 : decode cX7_crossings 2 = .ok (.iconst 1, 1) := by decide +kernel
theorem dX7_crossings_3 : decode cX7_crossings 3 = .ok (.invokevirtual 148, 3) := by decide +kernel
theorem dX7_crossings_6 : decode cX7_crossings 6 = .ok (.ifCond .ne 5, 3) := by decide +kernel
theorem dX7_crossings_9 : decode cX7_crossings 9 = .ok (.iconst 0, 1) := by decide +kernel
theorem dX7_crossings_10 : decode cX7_crossings 10 = .ok (.ireturn, 1) := by decide +kernel
theorem dX7_crossings_11 : decode cX7_crossings 11 = .ok (.aload_n 0, 1) := by decide +kernel
theorem dX7_crossings_12 : decode cX7_crossings 12 = .ok (.getfield 42, 3) := by decide +kernel
theorem dX7_crossings_15 : decode cX7_crossings 15 = .ok (.aload_n 0, 1) := by decide +kernel
theorem dX7_crossings_16 : decode cX7_crossings 16 = .ok (.iload_n 1, 1) := by decide +kernel
theorem dX7_crossings_17 : decode cX7_crossings 17 = .ok (.iconst 1, 1) := by decide +kernel
theorem dX7_crossings_18 : decode cX7_crossings 18 = .ok (.invokevirtual 144, 3) := by decide +kernel
theorem dX7_crossings_21 : decode cX7_crossings 21 = .ok (.laload, 1) := by decide +kernel
theorem dX7_crossings_22 : decode cX7_crossings 22 = .ok (.lstore_n 2, 1) := by decide +kernel
theorem dX7_crossings_23 : decode cX7_crossings 23 = .ok (.iconst 1, 1) := by decide +kernel
theorem dX7_crossings_24 : decode cX7_crossings 24 = .ok (.istore 4, 2) := by decide +kernel
theorem dX7_crossings_26 : decode cX7_crossings 26 = .ok (.iload 4, 2) := by decide +kernel
theorem dX7_crossings_28 : decode cX7_crossings 28 = .ok (.aload_n 0, 1) := by decide +kernel
theorem dX7_crossings_29 : decode cX7_crossings 29 = .ok (.getfield 7, 3) := by decide +kernel
theorem dX7_crossings_32 : decode cX7_crossings 32 = .ok (.iload_n 1, 1) := by decide +kernel
theorem dX7_crossings_33 : decode cX7_crossings 33 = .ok (.iaload, 1) := by decide +kernel
theorem dX7_crossings_34 : decode cX7_crossings 34 = .ok (.if_icmp .gt 24, 3) := by decide +kernel
theorem dX7_crossings_37 : decode cX7_crossings 37 = .ok (.aload_n 0, 1) := by decide +kernel
theorem dX7_crossings_38 : decode cX7_crossings 38 = .ok (.getfield 52, 3) := by decide +kernel
theorem dX7_crossings_41 : decode cX7_crossings 41 = .ok (.iload 4, 2) := by decide +kernel
theorem dX7_crossings_43 : decode cX7_crossings 43 = .ok (.aload_n 0, 1) := by decide +kernel
theorem dX7_crossings_44 : decode cX7_crossings 44 = .ok (.iload_n 1, 1) := by decide +kernel
theorem dX7_crossings_45 : decode cX7_crossings 45 = .ok (.lload_n 2, 1) := by decide +kernel
theorem dX7_crossings_46 : decode cX7_crossings 46 = .ok (.iload 4, 2) := by decide +kernel
theorem dX7_crossings_48 : decode cX7_crossings 48 = .ok (.invokevirtual 156, 3) := by decide +kernel
theorem dX7_crossings_51 : decode cX7_crossings 51 = .ok (.iastore, 1) := by decide +kernel
theorem dX7_crossings_52 : decode cX7_crossings 52 = .ok (.iinc 4 1, 3) := by decide +kernel
theorem dX7_crossings_55 : decode cX7_crossings 55 = .ok (.goto (-29), 3) := by decide +kernel
theorem dX7_crossings_58 : decode cX7_crossings 58 = .ok (.iconst 0, 1) := by decide +kernel
theorem dX7_crossings_59 : decode cX7_crossings 59 = .ok (.istore 4, 2) := by decide +kernel
theorem dX7_crossings_61 : decode cX7_crossings 61 = .ok (.iconst 1, 1) := by decide +kernel
theorem dX7_crossings_62 : decode cX7_crossings 62 = .ok (.istore 5, 2) := by decide +kernel
theorem dX7_crossings_64 : decode cX7_crossings 64 = .ok (.iload 5, 2) := by decide +kernel
theorem dX7_crossings_66 : decode cX7_crossings 66 = .ok (.aload_n 0, 1) := by decide +kernel
theorem dX7_crossings_67 : decode cX7_crossings 67 = .ok (.getfield 7, 3) := by decide +kernel
theorem dX7_crossings_70 : decode cX7_crossings 70 = .ok (.iload_n 1, 1) := by decide +kernel
theorem dX7_crossings_71 : decode cX7_crossings 71 = .ok (.iaload, 1) := by decide +kernel
theorem dX7_crossings_72 : decode cX7_crossings 72 = .ok (.if_icmp .gt 46, 3) := by decide +kernel
theorem dX7_crossings_75 : decode cX7_crossings 75 = .ok (.iconst 1, 1) := by decide +kernel
theorem dX7_crossings_76 : decode cX7_crossings 76 = .ok (.istore 6, 2) := by decide +kernel
theorem dX7_crossings_78 : decode cX7_crossings 78 = .ok (.iload 6, 2) := by decide +kernel
theorem dX7_crossings_80 : decode cX7_crossings 80 = .ok (.iload 5, 2) := by decide +kernel
theorem dX7_crossings_82 : decode cX7_crossings 82 = .ok (.if_icmp .ge 30, 3) := by decide +kernel
theorem dX7_crossings_85 : decode cX7_crossings 85 = .ok (.iload 4, 2) := by decide +kernel
theorem dX7_crossings_87 : decode cX7_crossings 87 = .ok (.aload_n 0, 1) := by decide +kernel
theorem dX7_crossings_88 : decode cX7_crossings 88 = .ok (.iload 5, 2) := by decide +kernel
theorem dX7_crossings_90 : decode cX7_crossings 90 = .ok (.iload 6, 2) := by decide +kernel
theorem dX7_crossings_92 : decode cX7_crossings 92 = .ok (.invokevirtual 117, 3) := by decide +kernel
theorem dX7_crossings_95 : decode cX7_crossings 95 = .ok (.ifCond .eq 7, 3) := by decide +kernel
theorem dX7_crossings_98 : decode cX7_crossings 98 = .ok (.iconst 1, 1) := by decide +kernel
theorem dX7_crossings_99 : decode cX7_crossings 99 = .ok (.goto 4, 3) := by decide +kernel
theorem dX7_crossings_102 : decode cX7_crossings 102 = .ok (.iconst 0, 1) := by decide +kernel
theorem dX7_crossings_103 : decode cX7_crossings 103 = .ok (.iadd, 1) := by decide +kernel
theorem dX7_crossings_104 : decode cX7_crossings 104 = .ok (.istore 4, 2) := by decide +kernel
theorem dX7_crossings_106 : decode cX7_crossings 106 = .ok (.iinc 6 1, 3) := by decide +kernel
theorem dX7_crossings_109 : decode cX7_crossings 109 = .ok (.goto (-31), 3) := by decide +kernel
theorem dX7_crossings_112 : decode cX7_crossings 112 = .ok (.iinc 5 1, 3) := by decide +kernel
theorem dX7_crossings_115 : decode cX7_crossings 115 = .ok (.goto (-51), 3) := by decide +kernel
theorem dX7_crossings_118 : decode cX7_crossings 118 = .ok (.iload 4, 2) := by decide +kernel
theorem dX7_crossings_120 : decode cX7_crossings 120 = .ok (.ireturn, 1) := by decide +kernel
set_option maxRecDepth 20000 in
theorem ggX7_asksRank_X7_isSentence : GoodIn wsX7_asksRank wsX7_isSentence := goodIn_r _ [6, 7, 74, 75, 76, 77, 78, 79, 80, 81, 82, 83, 84, 85, 86, 87, 88, 89, 90, 91, 92, 93] (by decide +kernel) (by decide +kernel)
set_option maxRecDepth 20000 in
theorem gX7_asksRank_X7_isSentence : GoodIn wsX7_asksRank (wsV RX7 61 RX7 yX7_isSentence wsX7_isSentence) := goodIn_app (goodIn_of _ (by decide +kernel)) ggX7_asksRank_X7_isSentence
set_option maxRecDepth 20000 in
theorem ggX7_asksRank_X7_finds : GoodIn wsX7_asksRank wsX7_finds := goodIn_r _ [11, 12, 13, 14, 15, 16, 5, 17, 18, 19, 20, 21, 22, 23, 1, 24, 25, 26, 27, 28, 29, 30, 31, 32, 33, 34, 35, 36, 37, 38, 39, 40, 41, 42, 43, 44, 45, 46, 47, 48, 49, 50, 51, 52, 53, 54, 55, 56, 57, 58, 59, 60, 74, 75, 76, 77, 78, 79, 80, 81, 82, 83, 84, 85, 86, 87, 88, 89, 90, 91, 92, 93] (by decide +kernel) (by decide +kernel)
set_option maxRecDepth 20000 in
theorem gX7_asksRank_X7_finds : GoodIn wsX7_asksRank (wsV RX7 144 RX7 yX7_finds wsX7_finds) := goodIn_app (goodIn_of _ (by decide +kernel)) ggX7_asksRank_X7_finds
set_option maxRecDepth 20000 in
theorem ggX7_asksRank_X7_lists : GoodIn wsX7_asksRank wsX7_lists := goodIn_r _ [64, 13, 20, 22, 14, 15, 16, 5, 17, 18, 19, 21, 23, 1, 12, 24, 25, 26, 27, 28, 29, 30, 31, 32, 33, 34, 35, 36, 37, 38, 39, 40, 41, 42, 43, 44, 45, 46, 47, 48, 49, 50, 51, 52, 53, 54, 55, 56, 57, 58, 59, 60, 65, 66, 67, 68, 74, 75, 76, 77, 78, 79, 80, 81, 82, 83, 84, 85, 86, 87, 88, 89, 90, 91, 92, 93] (by decide +kernel) (by decide +kernel)
set_option maxRecDepth 20000 in
theorem gX7_asksRank_X7_lists : GoodIn wsX7_asksRank (wsV RX7 160 RX7 yX7_lists wsX7_lists) := goodIn_app (goodIn_of _ (by decide +kernel)) ggX7_asksRank_X7_lists
set_option maxRecDepth 20000 in
theorem ggX7_asksRank_X7_asks : GoodIn wsX7_asksRank wsX7_asks := goodIn_r _ [72, 73, 74, 75, 76, 77, 78, 79, 80, 81, 82, 83, 84, 85, 86, 87, 88, 89, 90, 91, 92, 93] (by decide +kernel) (by decide +kernel)
set_option maxRecDepth 20000 in
theorem gX7_asksRank_X7_asks : GoodIn wsX7_asksRank (wsV RX7 65 RX7 yX7_asks wsX7_asks) := goodIn_app (goodIn_of _ (by decide +kernel)) ggX7_asksRank_X7_asks
theorem dX7_asksRank_0 : decode cX7_asksRank 0 = .ok (.aload_n 0, 1) := by decide +kernel
theorem dX7_asksRank_1 : decode cX7_asksRank 1 = .ok (.iload_n 1, 1) := by decide +kernel
theorem dX7_asksRank_2 : decode cX7_asksRank 2 = .ok (.invokevirtual 61, 3) := by decide +kernel
theorem dX7_asksRank_5 : decode cX7_asksRank 5 = .ok (.ifCond .eq 31, 3) := by decide +kernel
theorem dX7_asksRank_8 : decode cX7_asksRank 8 = .ok (.iload 4, 2) := by decide +kernel
theorem dX7_asksRank_10 : decode cX7_asksRank 10 = .ok (.ifCond .eq 26, 3) := by decide +kernel
theorem dX7_asksRank_13 : decode cX7_asksRank 13 = .ok (.iload_n 3, 1) := by decide +kernel
theorem dX7_asksRank_14 : decode cX7_asksRank 14 = .ok (.ifCond .lt 22, 3) := by decide +kernel
theorem dX7_asksRank_17 : decode cX7_asksRank 17 = .ok (.iload_n 3, 1) := by decide +kernel
theorem dX7_asksRank_18 : decode cX7_asksRank 18 = .ok (.aload_n 0, 1) := by decide +kernel
theorem dX7_asksRank_19 : decode cX7_asksRank 19 = .ok (.getfield 45, 3) := by decide +kernel
theorem dX7_asksRank_22 : decode cX7_asksRank 22 = .ok (.aload_n 0, 1) := by decide +kernel
theorem dX7_asksRank_23 : decode cX7_asksRank 23 = .ok (.iload_n 1, 1) := by decide +kernel
theorem dX7_asksRank_24 : decode cX7_asksRank 24 = .ok (.iload_n 2, 1) := by decide +kernel
theorem dX7_asksRank_25 : decode cX7_asksRank 25 = .ok (.invokevirtual 144, 3) := by decide +kernel
theorem dX7_asksRank_28 : decode cX7_asksRank 28 = .ok (.iaload, 1) := by decide +kernel
theorem dX7_asksRank_29 : decode cX7_asksRank 29 = .ok (.if_icmp .ge 7, 3) := by decide +kernel
theorem dX7_asksRank_32 : decode cX7_asksRank 32 = .ok (.iconst 1, 1) := by decide +kernel
theorem dX7_asksRank_33 : decode cX7_asksRank 33 = .ok (.goto 4, 3) := by decide +kernel
theorem dX7_asksRank_36 : decode cX7_asksRank 36 = .ok (.iconst 0, 1) := by decide +kernel
theorem dX7_asksRank_37 : decode cX7_asksRank 37 = .ok (.istore 5, 2) := by decide +kernel
theorem dX7_asksRank_39 : decode cX7_asksRank 39 = .ok (.iload 5, 2) := by decide +kernel
theorem dX7_asksRank_41 : decode cX7_asksRank 41 = .ok (.ifCond .eq 9, 3) := by decide +kernel
theorem dX7_asksRank_44 : decode cX7_asksRank 44 = .ok (.aload_n 0, 1) := by decide +kernel
theorem dX7_asksRank_45 : decode cX7_asksRank 45 = .ok (.iload_n 1, 1) := by decide +kernel
theorem dX7_asksRank_46 : decode cX7_asksRank 46 = .ok (.iload_n 2, 1) := by decide +kernel
theorem dX7_asksRank_47 : decode cX7_asksRank 47 = .ok (.invokevirtual 160, 3) := by decide +kernel
theorem dX7_asksRank_50 : decode cX7_asksRank 50 = .ok (.aload_n 0, 1) := by decide +kernel
theorem dX7_asksRank_51 : decode cX7_asksRank 51 = .ok (.iload 5, 2) := by decide +kernel
theorem dX7_asksRank_53 : decode cX7_asksRank 53 = .ok (.invokevirtual 65, 3) := by decide +kernel
theorem dX7_asksRank_56 : decode cX7_asksRank 56 = .ok (.ireturn, 1) := by decide +kernel
set_option maxRecDepth 20000 in
theorem ggX7_ranked_X7_asksRank : GoodIn wsX7_ranked wsX7_asksRank := goodIn_r _ [6, 7, 8, 9, 10, 5, 11, 12, 13, 14, 15, 16, 17, 18, 19, 20, 21, 22, 23, 24, 25, 26, 1, 27, 28, 29, 30, 31, 32, 33, 34, 35, 36, 37, 38, 39, 40, 41, 42, 43, 44, 45, 46, 47, 48, 49, 50, 51, 52, 53, 54, 55, 56, 57, 58, 59, 60, 61, 62, 63, 64, 65, 66, 67, 68, 69, 70, 71, 72, 73, 74, 75, 76, 77, 82, 83, 84, 85, 86, 87, 88, 89, 90, 91, 92, 93, 94, 95, 96, 97, 98, 99, 100, 101] (by decide +kernel) (by decide +kernel)
set_option maxRecDepth 20000 in
theorem gX7_ranked_X7_asksRank : GoodIn wsX7_ranked (wsV RX7 164 RX7 yX7_asksRank wsX7_asksRank) := goodIn_app (goodIn_of _ (by decide +kernel)) ggX7_ranked_X7_asksRank
set_option maxRecDepth 20000 in
theorem ggX7_ranked_X7_scoreIn : GoodIn wsX7_ranked wsX7_scoreIn := goodIn_r _ [81, 32] (by decide +kernel) (by decide +kernel)
set_option maxRecDepth 20000 in
theorem gX7_ranked_X7_scoreIn : GoodIn wsX7_ranked (wsV RX7 152 RX7 yX7_scoreIn wsX7_scoreIn) := goodIn_app (goodIn_of _ (by decide +kernel)) ggX7_ranked_X7_scoreIn
theorem dX7_ranked_0 : decode cX7_ranked 0 = .ok (.aload_n 0, 1) := by decide +kernel
theorem dX7_ranked_1 : decode cX7_ranked 1 = .ok (.iload_n 1, 1) := by decide +kernel
theorem dX7_ranked_2 : decode cX7_ranked 2 = .ok (.iload_n 2, 1) := by decide +kernel
theorem dX7_ranked_3 : decode cX7_ranked 3 = .ok (.iload_n 3, 1) := by decide +kernel
theorem dX7_ranked_4 : decode cX7_ranked 4 = .ok (.iconst 1, 1) := by decide +kernel
theorem dX7_ranked_5 : decode cX7_ranked 5 = .ok (.invokevirtual 164, 3) := by decide +kernel
theorem dX7_ranked_8 : decode cX7_ranked 8 = .ok (.ifCond .eq 16, 3) := by decide +kernel
theorem dX7_ranked_11 : decode cX7_ranked 11 = .ok (.aload_n 0, 1) := by decide +kernel
theorem dX7_ranked_12 : decode cX7_ranked 12 = .ok (.aload_n 0, 1) := by decide +kernel
theorem dX7_ranked_13 : decode cX7_ranked 13 = .ok (.getfield 35, 3) := by decide +kernel
theorem dX7_ranked_16 : decode cX7_ranked 16 = .ok (.iload_n 3, 1) := by decide +kernel
theorem dX7_ranked_17 : decode cX7_ranked 17 = .ok (.laload, 1) := by decide +kernel
theorem dX7_ranked_18 : decode cX7_ranked 18 = .ok (.invokevirtual 152, 3) := by decide +kernel
theorem dX7_ranked_21 : decode cX7_ranked 21 = .ok (.goto 4, 3) := by decide +kernel
theorem dX7_ranked_24 : decode cX7_ranked 24 = .ok (.iconst 0, 1) := by decide +kernel
theorem dX7_ranked_25 : decode cX7_ranked 25 = .ok (.ireturn, 1) := by decide +kernel
set_option maxRecDepth 20000 in
theorem ggX7_rankedHead_X7_isWord : GoodIn wsX7_rankedHead wsX7_isWord := goodIn_r _ [6, 7, 8, 9, 10, 5, 11, 12, 87, 88, 89, 90, 91, 92, 93, 94, 95, 96, 97, 98, 99, 100, 101, 102, 103, 104, 105, 106] (by decide +kernel) (by decide +kernel)
set_option maxRecDepth 20000 in
theorem gX7_rankedHead_X7_isWord : GoodIn wsX7_rankedHead (wsV RX7 76 RX7 yX7_isWord wsX7_isWord) := goodIn_app (goodIn_of _ (by decide +kernel)) ggX7_rankedHead_X7_isWord
set_option maxRecDepth 20000 in
theorem ggX7_rankedHead_X7_asksRank : GoodIn wsX7_rankedHead wsX7_asksRank := goodIn_r _ [16, 17, 8, 9, 10, 5, 11, 12, 18, 19, 20, 21, 22, 23, 24, 25, 26, 27, 7, 28, 29, 30, 1, 31, 32, 33, 34, 35, 36, 37, 38, 39, 40, 41, 42, 43, 44, 45, 46, 47, 48, 49, 50, 51, 52, 53, 54, 55, 56, 57, 58, 59, 60, 61, 62, 63, 64, 65, 66, 67, 68, 69, 70, 71, 72, 73, 74, 75, 76, 77, 78, 79, 80, 81, 87, 88, 89, 90, 91, 92, 93, 94, 95, 96, 97, 98, 99, 100, 101, 102, 103, 104, 105, 106] (by decide +kernel) (by decide +kernel)
set_option maxRecDepth 20000 in
theorem gX7_rankedHead_X7_asksRank : GoodIn wsX7_rankedHead (wsV RX7 164 RX7 yX7_asksRank wsX7_asksRank) := goodIn_app (goodIn_of _ (by decide +kernel)) ggX7_rankedHead_X7_asksRank
set_option maxRecDepth 20000 in
theorem ggX7_rankedHead_X7_headIn : GoodIn wsX7_rankedHead wsX7_headIn := goodIn_r _ [85, 7, 86, 87, 88, 89, 90, 91, 92, 93, 94, 95, 96, 97, 98, 99, 100, 101, 102, 103, 104, 105, 106] (by decide +kernel) (by decide +kernel)
set_option maxRecDepth 20000 in
theorem gX7_rankedHead_X7_headIn : GoodIn wsX7_rankedHead (wsV RX7 156 RX7 yX7_headIn wsX7_headIn) := goodIn_app (goodIn_of _ (by decide +kernel)) ggX7_rankedHead_X7_headIn
theorem dX7_rankedHead_0 : decode cX7_rankedHead 0 = .ok (.aload_n 0, 1) := by decide +kernel
theorem dX7_rankedHead_1 : decode cX7_rankedHead 1 = .ok (.iload_n 1, 1) := by decide +kernel
theorem dX7_rankedHead_2 : decode cX7_rankedHead 2 = .ok (.iload_n 2, 1) := by decide +kernel
theorem dX7_rankedHead_3 : decode cX7_rankedHead 3 = .ok (.iload_n 3, 1) := by decide +kernel
theorem dX7_rankedHead_4 : decode cX7_rankedHead 4 = .ok (.aload_n 0, 1) := by decide +kernel
theorem dX7_rankedHead_5 : decode cX7_rankedHead 5 = .ok (.iload_n 1, 1) := by decide +kernel
theorem dX7_rankedHead_6 : decode cX7_rankedHead 6 = .ok (.iload 4, 2) := by decide +kernel
theorem dX7_rankedHead_8 : decode cX7_rankedHead 8 = .ok (.invokevirtual 76, 3) := by decide +kernel
theorem dX7_rankedHead_11 : decode cX7_rankedHead 11 = .ok (.invokevirtual 164, 3) := by decide +kernel
theorem dX7_rankedHead_14 : decode cX7_rankedHead 14 = .ok (.ifCond .eq 19, 3) := by decide +kernel
theorem dX7_rankedHead_17 : decode cX7_rankedHead 17 = .ok (.aload_n 0, 1) := by decide +kernel
theorem dX7_rankedHead_18 : decode cX7_rankedHead 18 = .ok (.iload_n 1, 1) := by decide +kernel
theorem dX7_rankedHead_19 : decode cX7_rankedHead 19 = .ok (.aload_n 0, 1) := by decide +kernel
theorem dX7_rankedHead_20 : decode cX7_rankedHead 20 = .ok (.getfield 35, 3) := by decide +kernel
theorem dX7_rankedHead_23 : decode cX7_rankedHead 23 = .ok (.iload_n 3, 1) := by decide +kernel
theorem dX7_rankedHead_24 : decode cX7_rankedHead 24 = .ok (.laload, 1) := by decide +kernel
theorem dX7_rankedHead_25 : decode cX7_rankedHead 25 = .ok (.iload 4, 2) := by decide +kernel
theorem dX7_rankedHead_27 : decode cX7_rankedHead 27 = .ok (.invokevirtual 156, 3) := by decide +kernel
theorem dX7_rankedHead_30 : decode cX7_rankedHead 30 = .ok (.goto 4, 3) := by decide +kernel
theorem dX7_rankedHead_33 : decode cX7_rankedHead 33 = .ok (.iconst 0, 1) := by decide +kernel
theorem dX7_rankedHead_34 : decode cX7_rankedHead 34 = .ok (.ireturn, 1) := by decide +kernel
set_option maxRecDepth 20000 in
theorem ggX7_correct_X7_asksArc : GoodIn wsX7_correct wsX7_asksArc := goodIn_r _ [6, 7, 8, 9, 10, 5, 11, 12, 13, 14, 15, 16, 17, 18, 19, 20, 21, 22, 23, 24, 25, 26, 27, 28, 29, 30, 31, 32, 33, 34, 35, 36, 37, 38, 39, 40, 41] (by decide +kernel) (by decide +kernel)
set_option maxRecDepth 20000 in
theorem gX7_correct_X7_asksArc : GoodIn wsX7_correct (wsV RX7 101 RX7 yX7_asksArc wsX7_asksArc) := goodIn_app (goodIn_of _ (by decide +kernel)) ggX7_correct_X7_asksArc
theorem dX7_correct_0 : decode cX7_correct 0 = .ok (.aload_n 0, 1) := by decide +kernel
theorem dX7_correct_1 : decode cX7_correct 1 = .ok (.iload_n 1, 1) := by decide +kernel
theorem dX7_correct_2 : decode cX7_correct 2 = .ok (.iload_n 2, 1) := by decide +kernel
theorem dX7_correct_3 : decode cX7_correct 3 = .ok (.iload_n 3, 1) := by decide +kernel
theorem dX7_correct_4 : decode cX7_correct 4 = .ok (.invokevirtual 101, 3) := by decide +kernel
theorem dX7_correct_7 : decode cX7_correct 7 = .ok (.ifCond .ne 5, 3) := by decide +kernel
theorem dX7_correct_10 : decode cX7_correct 10 = .ok (.iconst 0, 1) := by decide +kernel
theorem dX7_correct_11 : decode cX7_correct 11 = .ok (.ireturn, 1) := by decide +kernel
theorem dX7_correct_12 : decode cX7_correct 12 = .ok (.aload_n 0, 1) := by decide +kernel
theorem dX7_correct_13 : decode cX7_correct 13 = .ok (.getfield 19, 3) := by decide +kernel
theorem dX7_correct_16 : decode cX7_correct 16 = .ok (.bipush 7, 2) := by decide +kernel
theorem dX7_correct_18 : decode cX7_correct 18 = .ok (.iload_n 1, 1) := by decide +kernel
theorem dX7_correct_19 : decode cX7_correct 19 = .ok (.imul, 1) := by decide +kernel
theorem dX7_correct_20 : decode cX7_correct 20 = .ok (.iload_n 3, 1) := by decide +kernel
theorem dX7_correct_21 : decode cX7_correct 21 = .ok (.iadd, 1) := by decide +kernel
theorem dX7_correct_22 : decode cX7_correct 22 = .ok (.iaload, 1) := by decide +kernel
theorem dX7_correct_23 : decode cX7_correct 23 = .ok (.istore 4, 2) := by decide +kernel
theorem dX7_correct_25 : decode cX7_correct 25 = .ok (.aload_n 0, 1) := by decide +kernel
theorem dX7_correct_26 : decode cX7_correct 26 = .ok (.getfield 19, 3) := by decide +kernel
theorem dX7_correct_29 : decode cX7_correct 29 = .ok (.bipush 7, 2) := by decide +kernel
theorem dX7_correct_31 : decode cX7_correct 31 = .ok (.iload_n 1, 1) := by decide +kernel
theorem dX7_correct_32 : decode cX7_correct 32 = .ok (.imul, 1) := by decide +kernel
theorem dX7_correct_33 : decode cX7_correct 33 = .ok (.iload_n 3, 1) := by decide +kernel
theorem dX7_correct_34 : decode cX7_correct 34 = .ok (.iadd, 1) := by decide +kernel
theorem dX7_correct_35 : decode cX7_correct 35 = .ok (.iload_n 2, 1) := by decide +kernel
theorem dX7_correct_36 : decode cX7_correct 36 = .ok (.iastore, 1) := by decide +kernel
theorem dX7_correct_37 : decode cX7_correct 37 = .ok (.iload 4, 2) := by decide +kernel
theorem dX7_correct_39 : decode cX7_correct 39 = .ok (.ireturn, 1) := by decide +kernel
set_option maxRecDepth 20000 in
theorem ggX7_matched_X7_asksTree : GoodIn wsX7_matched wsX7_asksTree := goodIn_r _ [8, 9, 10, 11, 12, 13, 7, 14, 15, 16, 17, 18, 19, 20, 21, 22, 23, 24, 25, 26, 27, 28, 29, 2, 30, 31, 32, 33, 1, 34, 35, 36, 37, 38, 39, 40, 41, 42, 43, 44, 45, 46, 47, 48, 49, 50, 51, 52, 53, 54, 55, 56, 57, 58, 59, 60, 61, 62, 63, 64, 65, 66, 67, 68, 69, 70, 76, 77, 78, 79, 80, 81, 82, 83, 84, 85, 86, 87, 88, 89, 90, 91, 92, 93, 94, 95] (by decide +kernel) (by decide +kernel)
set_option maxRecDepth 20000 in
theorem gX7_matched_X7_asksTree : GoodIn wsX7_matched (wsV RX7 148 RX7 yX7_asksTree wsX7_asksTree) := goodIn_app (goodIn_of _ (by decide +kernel)) ggX7_matched_X7_asksTree
set_option maxRecDepth 20000 in
theorem ggX7_matched_X7_finds : GoodIn wsX7_matched wsX7_finds := goodIn_r _ [23, 24, 25, 26, 27, 28, 7, 29, 2, 30, 31, 32, 33, 1, 9, 34, 35, 36, 37, 38, 39, 40, 41, 42, 43, 44, 45, 46, 47, 48, 49, 50, 51, 52, 53, 54, 55, 56, 57, 58, 59, 60, 61, 62, 63, 64, 65, 66, 67, 68, 69, 70, 76, 77, 78, 79, 80, 81, 82, 83, 84, 85, 86, 87, 88, 89, 90, 91, 92, 93, 94, 95] (by decide +kernel) (by decide +kernel)
set_option maxRecDepth 20000 in
theorem gX7_matched_X7_finds : GoodIn wsX7_matched (wsV RX7 144 RX7 yX7_finds wsX7_finds) := goodIn_app (goodIn_of _ (by decide +kernel)) ggX7_matched_X7_finds
set_option maxRecDepth 20000 in
theorem ggX7_matched_X7_headIn : GoodIn wsX7_matched wsX7_headIn := goodIn_r _ [74, 2, 75, 76, 77, 78, 79, 80, 81, 82, 83, 84, 85, 86, 87, 88, 89, 90, 91, 92, 93, 94, 95] (by decide +kernel) (by decide +kernel)
set_option maxRecDepth 20000 in
theorem gX7_matched_X7_headIn : GoodIn wsX7_matched (wsV RX7 156 RX7 yX7_headIn wsX7_headIn) := goodIn_app (goodIn_of _ (by decide +kernel)) ggX7_matched_X7_headIn
theorem dX7_matched_0 : decode cX7_matched 0 = .ok (.aload_n 0, 1) := by decide +kernel
theorem dX7_matched_1 : decode cX7_matched 1 = .ok (.iload_n 1, 1) := by decide +kernel
theorem dX7_matched_2 : decode cX7_matched 2 = .ok (.iconst 1, 1) := by decide +kernel
theorem dX7_matched_3 : decode cX7_matched 3 = .ok (.invokevirtual 148, 3) := by decide +kernel
theorem dX7_matched_6 : decode cX7_matched 6 = .ok (.ifCond .ne 5, 3) := by decide +kernel
theorem dX7_matched_9 : decode cX7_matched 9 = .ok (.iconst 0, 1) := by decide +kernel
theorem dX7_matched_10 : decode cX7_matched 10 = .ok (.ireturn, 1) := by decide +kernel
theorem dX7_matched_11 : decode cX7_matched 11 = .ok (.aload_n 0, 1) := by decide +kernel
theorem dX7_matched_12 : decode cX7_matched 12 = .ok (.getfield 42, 3) := by decide +kernel
theorem dX7_matched_15 : decode cX7_matched 15 = .ok (.aload_n 0, 1) := by decide +kernel
theorem dX7_matched_16 : decode cX7_matched 16 = .ok (.iload_n 1, 1) := by decide +kernel
theorem dX7_matched_17 : decode cX7_matched 17 = .ok (.iconst 1, 1) := by decide +kernel
theorem dX7_matched_18 : decode cX7_matched 18 = .ok (.invokevirtual 144, 3) := by decide +kernel
theorem dX7_matched_21 : decode cX7_matched 21 = .ok (.laload, 1) := by decide +kernel
theorem dX7_matched_22 : decode cX7_matched 22 = .ok (.lstore_n 2, 1) := by decide +kernel
theorem dX7_matched_23 : decode cX7_matched 23 = .ok (.iconst 0, 1) := by decide +kernel
theorem dX7_matched_24 : decode cX7_matched 24 = .ok (.istore 4, 2) := by decide +kernel
theorem dX7_matched_26 : decode cX7_matched 26 = .ok (.iconst 1, 1) := by decide +kernel
theorem dX7_matched_27 : decode cX7_matched 27 = .ok (.istore 5, 2) := by decide +kernel
theorem dX7_matched_29 : decode cX7_matched 29 = .ok (.iload 5, 2) := by decide +kernel
theorem dX7_matched_31 : decode cX7_matched 31 = .ok (.aload_n 0, 1) := by decide +kernel
theorem dX7_matched_32 : decode cX7_matched 32 = .ok (.getfield 7, 3) := by decide +kernel
theorem dX7_matched_35 : decode cX7_matched 35 = .ok (.iload_n 1, 1) := by decide +kernel
theorem dX7_matched_36 : decode cX7_matched 36 = .ok (.iaload, 1) := by decide +kernel
theorem dX7_matched_37 : decode cX7_matched 37 = .ok (.if_icmp .gt 42, 3) := by decide +kernel
theorem dX7_matched_40 : decode cX7_matched 40 = .ok (.iload 4, 2) := by decide +kernel
theorem dX7_matched_42 : decode cX7_matched 42 = .ok (.aload_n 0, 1) := by decide +kernel
theorem dX7_matched_43 : decode cX7_matched 43 = .ok (.getfield 19, 3) := by decide +kernel
theorem dX7_matched_46 : decode cX7_matched 46 = .ok (.bipush 7, 2) := by decide +kernel
theorem dX7_matched_48 : decode cX7_matched 48 = .ok (.iload_n 1, 1) := by decide +kernel
theorem dX7_matched_49 : decode cX7_matched 49 = .ok (.imul, 1) := by decide +kernel
theorem dX7_matched_50 : decode cX7_matched 50 = .ok (.iload 5, 2) := by decide +kernel
theorem dX7_matched_52 : decode cX7_matched 52 = .ok (.iadd, 1) := by decide +kernel
theorem dX7_matched_53 : decode cX7_matched 53 = .ok (.iaload, 1) := by decide +kernel
theorem dX7_matched_54 : decode cX7_matched 54 = .ok (.aload_n 0, 1) := by decide +kernel
theorem dX7_matched_55 : decode cX7_matched 55 = .ok (.iload_n 1, 1) := by decide +kernel
theorem dX7_matched_56 : decode cX7_matched 56 = .ok (.lload_n 2, 1) := by decide +kernel
theorem dX7_matched_57 : decode cX7_matched 57 = .ok (.iload 5, 2) := by decide +kernel
theorem dX7_matched_59 : decode cX7_matched 59 = .ok (.invokevirtual 156, 3) := by decide +kernel
theorem dX7_matched_62 : decode cX7_matched 62 = .ok (.if_icmp .ne 7, 3) := by decide +kernel
theorem dX7_matched_65 : decode cX7_matched 65 = .ok (.iconst 1, 1) := by decide +kernel
theorem dX7_matched_66 : decode cX7_matched 66 = .ok (.goto 4, 3) := by decide +kernel
theorem dX7_matched_69 : decode cX7_matched 69 = .ok (.iconst 0, 1) := by decide +kernel
theorem dX7_matched_70 : decode cX7_matched 70 = .ok (.iadd, 1) := by decide +kernel
theorem dX7_matched_71 : decode cX7_matched 71 = .ok (.istore 4, 2) := by decide +kernel
theorem dX7_matched_73 : decode cX7_matched 73 = .ok (.iinc 5 1, 3) := by decide +kernel
theorem dX7_matched_76 : decode cX7_matched 76 = .ok (.goto (-47), 3) := by decide +kernel
theorem dX7_matched_79 : decode cX7_matched 79 = .ok (.iload 4, 2) := by decide +kernel
theorem dX7_matched_81 : decode cX7_matched 81 = .ok (.ireturn, 1) := by decide +kernel
theorem dX7_isRight_0 : decode cX7_isRight 0 = .ok (.iconst 1, 1) := by decide +kernel
theorem dX7_isRight_1 : decode cX7_isRight 1 = .ok (.istore_n 2, 1) := by decide +kernel
theorem dX7_isRight_2 : decode cX7_isRight 2 = .ok (.iconst 1, 1) := by decide +kernel
theorem dX7_isRight_3 : decode cX7_isRight 3 = .ok (.istore_n 3, 1) := by decide +kernel
theorem dX7_isRight_4 : decode cX7_isRight 4 = .ok (.iload_n 3, 1) := by decide +kernel
theorem dX7_isRight_5 : decode cX7_isRight 5 = .ok (.aload_n 0, 1) := by decide +kernel
theorem dX7_isRight_6 : decode cX7_isRight 6 = .ok (.getfield 7, 3) := by decide +kernel
theorem dX7_isRight_9 : decode cX7_isRight 9 = .ok (.iload_n 1, 1) := by decide +kernel
theorem dX7_isRight_10 : decode cX7_isRight 10 = .ok (.iaload, 1) := by decide +kernel
theorem dX7_isRight_11 : decode cX7_isRight 11 = .ok (.if_icmp .gt 62, 3) := by decide +kernel
theorem dX7_isRight_14 : decode cX7_isRight 14 = .ok (.iload_n 3, 1) := by decide +kernel
theorem dX7_isRight_15 : decode cX7_isRight 15 = .ok (.istore 4, 2) := by decide +kernel
theorem dX7_isRight_17 : decode cX7_isRight 17 = .ok (.iconst 0, 1) := by decide +kernel
theorem dX7_isRight_18 : decode cX7_isRight 18 = .ok (.istore 5, 2) := by decide +kernel
theorem dX7_isRight_20 : decode cX7_isRight 20 = .ok (.iload 5, 2) := by decide +kernel
theorem dX7_isRight_22 : decode cX7_isRight 22 = .ok (.bipush 6, 2) := by decide +kernel
theorem dX7_isRight_24 : decode cX7_isRight 24 = .ok (.if_icmp .ge 28, 3) := by decide +kernel
theorem dX7_isRight_27 : decode cX7_isRight 27 = .ok (.iload 4, 2) := by decide +kernel
theorem dX7_isRight_29 : decode cX7_isRight 29 = .ok (.ifCond .le 23, 3) := by decide +kernel
theorem dX7_isRight_32 : decode cX7_isRight 32 = .ok (.aload_n 0, 1) := by decide +kernel
theorem dX7_isRight_33 : decode cX7_isRight 33 = .ok (.getfield 19, 3) := by decide +kernel
theorem dX7_isRight_36 : decode cX7_isRight 36 = .ok (.bipush 7, 2) := by decide +kernel
theorem dX7_isRight_38 : decode cX7_isRight 38 = .ok (.iload_n 1, 1) := by decide +kernel
theorem dX7_isRight_39 : decode cX7_isRight 39 = .ok (.imul, 1) := by decide +kernel
theorem dX7_isRight_40 : decode cX7_isRight 40 = .ok (.iload 4, 2) := by decide +kernel
theorem dX7_isRight_42 : decode cX7_isRight 42 = .ok (.iadd, 1) := by decide +kernel
theorem dX7_isRight_43 : decode cX7_isRight 43 = .ok (.iaload, 1) := by decide +kernel
theorem dX7_isRight_44 : decode cX7_isRight 44 = .ok (.istore 4, 2) := by decide +kernel
theorem dX7_isRight_46 : decode cX7_isRight 46 = .ok (.iinc 5 1, 3) := by decide +kernel
theorem dX7_isRight_49 : decode cX7_isRight 49 = .ok (.goto (-29), 3) := by decide +kernel
theorem dX7_isRight_52 : decode cX7_isRight 52 = .ok (.iload_n 2, 1) := by decide +kernel
theorem dX7_isRight_53 : decode cX7_isRight 53 = .ok (.ifCond .eq 12, 3) := by decide +kernel
theorem dX7_isRight_56 : decode cX7_isRight 56 = .ok (.iload 4, 2) := by decide +kernel
theorem dX7_isRight_58 : decode cX7_isRight 58 = .ok (.ifCond .ne 7, 3) := by decide +kernel
theorem dX7_isRight_61 : decode cX7_isRight 61 = .ok (.iconst 1, 1) := by decide +kernel
theorem dX7_isRight_62 : decode cX7_isRight 62 = .ok (.goto 4, 3) := by decide +kernel
theorem dX7_isRight_65 : decode cX7_isRight 65 = .ok (.iconst 0, 1) := by decide +kernel
theorem dX7_isRight_66 : decode cX7_isRight 66 = .ok (.istore_n 2, 1) := by decide +kernel
theorem dX7_isRight_67 : decode cX7_isRight 67 = .ok (.iinc 3 1, 3) := by decide +kernel
theorem dX7_isRight_70 : decode cX7_isRight 70 = .ok (.goto (-66), 3) := by decide +kernel
theorem dX7_isRight_73 : decode cX7_isRight 73 = .ok (.iload_n 2, 1) := by decide +kernel
theorem dX7_isRight_74 : decode cX7_isRight 74 = .ok (.ireturn, 1) := by decide +kernel
set_option maxRecDepth 20000 in
theorem ggX7_adds_X7_byKind : GoodIn wsX7_adds wsX7_byKind := goodIn_r _ [6, 7, 11, 12, 13, 14, 15, 16, 17, 18, 19, 20, 21, 22, 23, 24, 25, 26, 27, 28, 29, 30] (by decide +kernel) (by decide +kernel)
set_option maxRecDepth 20000 in
theorem gX7_adds_X7_byKind : GoodIn wsX7_adds (wsV RX7 90 RX7 yX7_byKind wsX7_byKind) := goodIn_app (goodIn_of _ (by decide +kernel)) ggX7_adds_X7_byKind
set_option maxRecDepth 20000 in
theorem ggX7_adds_X7_byDistance : GoodIn wsX7_adds wsX7_byDistance := goodIn_r _ [10] (by decide +kernel) (by decide +kernel)
set_option maxRecDepth 20000 in
theorem gX7_adds_X7_byDistance : GoodIn wsX7_adds (va_wsS RX7 94 yX7_byDistance wsX7_byDistance) := goodIn_app (goodIn_of _ (by decide +kernel)) ggX7_adds_X7_byDistance
theorem dX7_adds_0 : decode cX7_adds 0 = .ok (.aload_n 0, 1) := by decide +kernel
theorem dX7_adds_1 : decode cX7_adds 1 = .ok (.getfield 22, 3) := by decide +kernel
theorem dX7_adds_4 : decode cX7_adds 4 = .ok (.aload_n 0, 1) := by decide +kernel
theorem dX7_adds_5 : decode cX7_adds 5 = .ok (.iload_n 1, 1) := by decide +kernel
theorem dX7_adds_6 : decode cX7_adds 6 = .ok (.iload_n 2, 1) := by decide +kernel
theorem dX7_adds_7 : decode cX7_adds 7 = .ok (.iload_n 3, 1) := by decide +kernel
theorem dX7_adds_8 : decode cX7_adds 8 = .ok (.invokevirtual 90, 3) := by decide +kernel
theorem dX7_adds_11 : decode cX7_adds 11 = .ok (.dup2, 1) := by decide +kernel
theorem dX7_adds_12 : decode cX7_adds 12 = .ok (.iaload, 1) := by decide +kernel
theorem dX7_adds_13 : decode cX7_adds 13 = .ok (.iload 4, 2) := by decide +kernel
theorem dX7_adds_15 : decode cX7_adds 15 = .ok (.iadd, 1) := by decide +kernel
theorem dX7_adds_16 : decode cX7_adds 16 = .ok (.iastore, 1) := by decide +kernel
theorem dX7_adds_17 : decode cX7_adds 17 = .ok (.aload_n 0, 1) := by decide +kernel
theorem dX7_adds_18 : decode cX7_adds 18 = .ok (.getfield 22, 3) := by decide +kernel
theorem dX7_adds_21 : decode cX7_adds 21 = .ok (.iload_n 2, 1) := by decide +kernel
theorem dX7_adds_22 : decode cX7_adds 22 = .ok (.iload_n 3, 1) := by decide +kernel
theorem dX7_adds_23 : decode cX7_adds 23 = .ok (.invokestatic 94, 3) := by decide +kernel
theorem dX7_adds_26 : decode cX7_adds 26 = .ok (.dup2, 1) := by decide +kernel
theorem dX7_adds_27 : decode cX7_adds 27 = .ok (.iaload, 1) := by decide +kernel
theorem dX7_adds_28 : decode cX7_adds 28 = .ok (.iload 4, 2) := by decide +kernel
theorem dX7_adds_30 : decode cX7_adds 30 = .ok (.iadd, 1) := by decide +kernel
theorem dX7_adds_31 : decode cX7_adds 31 = .ok (.iastore, 1) := by decide +kernel
theorem dX7_adds_32 : decode cX7_adds 32 = .ok (.return_, 1) := by decide +kernel
set_option maxRecDepth 20000 in
theorem ggX7_mend_X7_isSentence : GoodIn wsX7_mend wsX7_isSentence := goodIn_r _ [12, 13, 98, 99, 100, 101, 102, 103, 104, 105, 106, 107, 108, 109, 110, 111, 112, 113, 114, 115, 116, 117] (by decide +kernel) (by decide +kernel)
set_option maxRecDepth 20000 in
theorem gX7_mend_X7_isSentence : GoodIn wsX7_mend (wsV RX7 61 RX7 yX7_isSentence wsX7_isSentence) := goodIn_app (goodIn_of _ (by decide +kernel)) ggX7_mend_X7_isSentence
set_option maxRecDepth 20000 in
theorem ggX7_mend_X7_asks : GoodIn wsX7_mend wsX7_asks := goodIn_r _ [17, 18, 98, 99, 100, 101, 102, 103, 104, 105, 106, 107, 108, 109, 110, 111, 112, 113, 114, 115, 116, 117] (by decide +kernel) (by decide +kernel)
set_option maxRecDepth 20000 in
theorem gX7_mend_X7_asks : GoodIn wsX7_mend (wsV RX7 65 RX7 yX7_asks wsX7_asks) := goodIn_app (goodIn_of _ (by decide +kernel)) ggX7_mend_X7_asks
set_option maxRecDepth 20000 in
theorem ggX7_mend_X7_isRight : GoodIn wsX7_mend wsX7_isRight := goodIn_r _ [22, 3, 4, 98, 99, 100, 101, 102, 103, 104, 105, 106, 107, 108, 109, 110, 111, 112, 113, 114, 115, 116, 117] (by decide +kernel) (by decide +kernel)
set_option maxRecDepth 20000 in
theorem gX7_mend_X7_isRight : GoodIn wsX7_mend (wsV RX7 168 RX7 yX7_isRight wsX7_isRight) := goodIn_app (goodIn_of _ (by decide +kernel)) ggX7_mend_X7_isRight
set_option maxRecDepth 20000 in
theorem ggX7_mend_X7_finds : GoodIn wsX7_mend wsX7_finds := goodIn_r _ [26, 27, 28, 29, 30, 31, 11, 32, 3, 33, 34, 35, 36, 2, 1, 37, 38, 39, 40, 41, 42, 43, 44, 45, 7, 46, 47, 48, 49, 50, 51, 52, 53, 54, 55, 56, 57, 58, 59, 60, 61, 62, 63, 64, 65, 66, 67, 68, 69, 70, 71, 72, 98, 99, 100, 101, 102, 103, 104, 105, 106, 107, 108, 109, 110, 111, 112, 113, 114, 115, 116, 117] (by decide +kernel) (by decide +kernel)
set_option maxRecDepth 20000 in
theorem gX7_mend_X7_finds : GoodIn wsX7_mend (wsV RX7 144 RX7 yX7_finds wsX7_finds) := goodIn_app (goodIn_of _ (by decide +kernel)) ggX7_mend_X7_finds
set_option maxRecDepth 20000 in
theorem ggX7_mend_X7_fails : GoodIn wsX7_mend wsX7_fails := goodIn_r _ [76, 18, 98, 99, 100, 101, 102, 103, 104, 105, 106, 107, 108, 109, 110, 111, 112, 113, 114, 115, 116, 117] (by decide +kernel) (by decide +kernel)
set_option maxRecDepth 20000 in
theorem gX7_mend_X7_fails : GoodIn wsX7_mend (wsV RX7 69 RX7 yX7_fails wsX7_fails) := goodIn_app (goodIn_of _ (by decide +kernel)) ggX7_mend_X7_fails
set_option maxRecDepth 20000 in
theorem ggX7_mend_X7_remembers : GoodIn wsX7_mend wsX7_remembers := goodIn_r _ [80, 81, 82, 83, 84, 7, 98, 99, 100, 101, 102, 103, 104, 105, 106, 107, 108, 109, 110, 111, 112, 113, 114, 115, 116, 117] (by decide +kernel) (by decide +kernel)
set_option maxRecDepth 20000 in
theorem gX7_mend_X7_remembers : GoodIn wsX7_mend (wsV RX7 86 RX7 yX7_remembers wsX7_remembers) := goodIn_app (goodIn_of _ (by decide +kernel)) ggX7_mend_X7_remembers
set_option maxRecDepth 20000 in
theorem ggX7_mend_X7_headIn : GoodIn wsX7_mend wsX7_headIn := goodIn_r _ [88, 3, 89, 98, 99, 100, 101, 102, 103, 104, 105, 106, 107, 108, 109, 110, 111, 112, 113, 114, 115, 116, 117] (by decide +kernel) (by decide +kernel)
set_option maxRecDepth 20000 in
theorem gX7_mend_X7_headIn : GoodIn wsX7_mend (wsV RX7 156 RX7 yX7_headIn wsX7_headIn) := goodIn_app (goodIn_of _ (by decide +kernel)) ggX7_mend_X7_headIn
set_option maxRecDepth 20000 in
theorem ggX7_mend_X7_adds : GoodIn wsX7_mend wsX7_adds := goodIn_r _ [93, 7, 46, 47, 48, 11, 49, 50, 51, 52, 53, 98, 99, 100, 101, 102, 103, 104, 105, 106, 107, 108, 109, 110, 111, 112, 113, 114, 115, 116, 117] (by decide +kernel) (by decide +kernel)
set_option maxRecDepth 20000 in
theorem gX7_mend_X7_adds : GoodIn wsX7_mend (wsV RX7 171 RX7 yX7_adds wsX7_adds) := goodIn_app (goodIn_of _ (by decide +kernel)) ggX7_mend_X7_adds
set_option maxRecDepth 20000 in
theorem ggX7_mend_X7_changed : GoodIn wsX7_mend wsX7_changed := goodIn_r _ [97, 28, 27, 98, 99, 100, 101, 102, 103, 104, 105, 106, 107, 108, 109, 110, 111, 112, 113, 114, 115, 116, 117] (by decide +kernel) (by decide +kernel)
set_option maxRecDepth 20000 in
theorem gX7_mend_X7_changed : GoodIn wsX7_mend (wsV RX7 73 RX7 yX7_changed wsX7_changed) := goodIn_app (goodIn_of _ (by decide +kernel)) ggX7_mend_X7_changed
theorem dX7_mend_0 : decode cX7_mend 0 = .ok (.aload_n 0, 1) := by decide +kernel
theorem dX7_mend_1 : decode cX7_mend 1 = .ok (.aload_n 0, 1) := by decide +kernel
theorem dX7_mend_2 : decode cX7_mend 2 = .ok (.iload_n 1, 1) := by decide +kernel
theorem dX7_mend_3 : decode cX7_mend 3 = .ok (.invokevirtual 61, 3) := by decide +kernel
theorem dX7_mend_6 : decode cX7_mend 6 = .ok (.invokevirtual 65, 3) := by decide +kernel
theorem dX7_mend_9 : decode cX7_mend 9 = .ok (.ifCond .ne 5, 3) := by decide +kernel
theorem dX7_mend_12 : decode cX7_mend 12 = .ok (.iconst 0, 1) := by decide +kernel
theorem dX7_mend_13 : decode cX7_mend 13 = .ok (.ireturn, 1) := by decide +kernel
theorem dX7_mend_14 : decode cX7_mend 14 = .ok (.aload_n 0, 1) := by decide +kernel
theorem dX7_mend_15 : decode cX7_mend 15 = .ok (.iload_n 1, 1) := by decide +kernel
theorem dX7_mend_16 : decode cX7_mend 16 = .ok (.invokevirtual 168, 3) := by decide +kernel
theorem dX7_mend_19 : decode cX7_mend 19 = .ok (.ifCond .eq 17, 3) := by decide +kernel
theorem dX7_mend_22 : decode cX7_mend 22 = .ok (.aload_n 0, 1) := by decide +kernel
theorem dX7_mend_23 : decode cX7_mend 23 = .ok (.getfield 45, 3) := by decide +kernel
theorem dX7_mend_26 : decode cX7_mend 26 = .ok (.aload_n 0, 1) := by decide +kernel
theorem dX7_mend_27 : decode cX7_mend 27 = .ok (.iload_n 1, 1) := by decide +kernel
theorem dX7_mend_28 : decode cX7_mend 28 = .ok (.iconst 1, 1) := by decide +kernel
theorem dX7_mend_29 : decode cX7_mend 29 = .ok (.invokevirtual 144, 3) := by decide +kernel
theorem dX7_mend_32 : decode cX7_mend 32 = .ok (.iaload, 1) := by decide +kernel
theorem dX7_mend_33 : decode cX7_mend 33 = .ok (.ifCond .ne 9, 3) := by decide +kernel
theorem dX7_mend_36 : decode cX7_mend 36 = .ok (.aload_n 0, 1) := by decide +kernel
theorem dX7_mend_37 : decode cX7_mend 37 = .ok (.iconst 2, 1) := by decide +kernel
theorem dX7_mend_38 : decode cX7_mend 38 = .ok (.invokevirtual 69, 3) := by decide +kernel
theorem dX7_mend_41 : decode cX7_mend 41 = .ok (.ireturn, 1) := by decide +kernel
theorem dX7_mend_42 : decode cX7_mend 42 = .ok (.aload_n 0, 1) := by decide +kernel
theorem dX7_mend_43 : decode cX7_mend 43 = .ok (.getfield 42, 3) := by decide +kernel
theorem dX7_mend_46 : decode cX7_mend 46 = .ok (.aload_n 0, 1) := by decide +kernel
theorem dX7_mend_47 : decode cX7_mend 47 = .ok (.iload_n 1, 1) := by decide +kernel
theorem dX7_mend_48 : decode cX7_mend 48 = .ok (.iconst 1, 1) := by decide +kernel
theorem dX7_mend_49 : decode cX7_mend 49 = .ok (.invokevirtual 144, 3) := by decide +kernel
theorem dX7_mend_52 : decode cX7_mend 52 = .ok (.laload, 1) := by decide +kernel
theorem dX7_mend_53 : decode cX7_mend 53 = .ok (.lstore_n 2, 1) := by decide +kernel
theorem dX7_mend_54 : decode cX7_mend 54 = .ok (.aload_n 0, 1) := by decide +kernel
theorem dX7_mend_55 : decode cX7_mend 55 = .ok (.iconst (-1), 1) := by decide +kernel
theorem dX7_mend_56 : decode cX7_mend 56 = .ok (.invokevirtual 86, 3) := by decide +kernel
theorem dX7_mend_59 : decode cX7_mend 59 = .ok (.iconst 0, 1) := by decide +kernel
theorem dX7_mend_60 : decode cX7_mend 60 = .ok (.istore 4, 2) := by decide +kernel
theorem dX7_mend_62 : decode cX7_mend 62 = .ok (.iconst 1, 1) := by decide +kernel
theorem dX7_mend_63 : decode cX7_mend 63 = .ok (.istore 5, 2) := by decide +kernel
theorem dX7_mend_65 : decode cX7_mend 65 = .ok (.iload 5, 2) := by decide +kernel
theorem dX7_mend_67 : decode cX7_mend 67 = .ok (.aload_n 0, 1) := by decide +kernel
theorem dX7_mend_68 : decode cX7_mend 68 = .ok (.getfield 7, 3) := by decide +kernel
theorem dX7_mend_71 : decode cX7_mend 71 = .ok (.iload_n 1, 1) := by decide +kernel
theorem dX7_mend_72 : decode cX7_mend 72 = .ok (.iaload, 1) := by decide +kernel
theorem dX7_mend_73 : decode cX7_mend 73 = .ok (.if_icmp .gt 63, 3) := by decide +kernel
theorem dX7_mend_76 : decode cX7_mend 76 = .ok (.aload_n 0, 1) := by decide +kernel
theorem dX7_mend_77 : decode cX7_mend 77 = .ok (.getfield 19, 3) := by decide +kernel
theorem dX7_mend_80 : decode cX7_mend 80 = .ok (.bipush 7, 2) := by decide +kernel
theorem dX7_mend_82 : decode cX7_mend 82 = .ok (.iload_n 1, 1) := by decide +kernel
theorem dX7_mend_83 : decode cX7_mend 83 = .ok (.imul, 1) := by decide +kernel
theorem dX7_mend_84 : decode cX7_mend 84 = .ok (.iload 5, 2) := by decide +kernel
theorem dX7_mend_86 : decode cX7_mend 86 = .ok (.iadd, 1) := by decide +kernel
theorem dX7_mend_87 : decode cX7_mend 87 = .ok (.iaload, 1) := by decide +kernel
theorem dX7_mend_88 : decode cX7_mend 88 = .ok (.istore 6, 2) := by decide +kernel
theorem dX7_mend_90 : decode cX7_mend 90 = .ok (.aload_n 0, 1) := by decide +kernel
theorem dX7_mend_91 : decode cX7_mend 91 = .ok (.iload_n 1, 1) := by decide +kernel
theorem dX7_mend_92 : decode cX7_mend 92 = .ok (.lload_n 2, 1) := by decide +kernel
theorem dX7_mend_93 : decode cX7_mend 93 = .ok (.iload 5, 2) := by decide +kernel
theorem dX7_mend_95 : decode cX7_mend 95 = .ok (.invokevirtual 156, 3) := by decide +kernel
theorem dX7_mend_98 : decode cX7_mend 98 = .ok (.istore 7, 2) := by decide +kernel
theorem dX7_mend_100 : decode cX7_mend 100 = .ok (.iload 6, 2) := by decide +kernel
theorem dX7_mend_102 : decode cX7_mend 102 = .ok (.iload 7, 2) := by decide +kernel
theorem dX7_mend_104 : decode cX7_mend 104 = .ok (.if_icmp .eq 26, 3) := by decide +kernel
theorem dX7_mend_107 : decode cX7_mend 107 = .ok (.aload_n 0, 1) := by decide +kernel
theorem dX7_mend_108 : decode cX7_mend 108 = .ok (.iload_n 1, 1) := by decide +kernel
theorem dX7_mend_109 : decode cX7_mend 109 = .ok (.iload 6, 2) := by decide +kernel
theorem dX7_mend_111 : decode cX7_mend 111 = .ok (.iload 5, 2) := by decide +kernel
theorem dX7_mend_113 : decode cX7_mend 113 = .ok (.iconst 1, 1) := by decide +kernel
theorem dX7_mend_114 : decode cX7_mend 114 = .ok (.invokevirtual 171, 3) := by decide +kernel
theorem dX7_mend_117 : decode cX7_mend 117 = .ok (.aload_n 0, 1) := by decide +kernel
theorem dX7_mend_118 : decode cX7_mend 118 = .ok (.iload_n 1, 1) := by decide +kernel
theorem dX7_mend_119 : decode cX7_mend 119 = .ok (.iload 7, 2) := by decide +kernel
theorem dX7_mend_121 : decode cX7_mend 121 = .ok (.iload 5, 2) := by decide +kernel
theorem dX7_mend_123 : decode cX7_mend 123 = .ok (.iconst (-1), 1) := by decide +kernel
theorem dX7_mend_124 : decode cX7_mend 124 = .ok (.invokevirtual 171, 3) := by decide +kernel
theorem dX7_mend_127 : decode cX7_mend 127 = .ok (.iinc 4 1, 3) := by decide +kernel
theorem dX7_mend_130 : decode cX7_mend 130 = .ok (.iinc 5 1, 3) := by decide +kernel
theorem dX7_mend_133 : decode cX7_mend 133 = .ok (.goto (-68), 3) := by decide +kernel
theorem dX7_mend_136 : decode cX7_mend 136 = .ok (.aload_n 0, 1) := by decide +kernel
theorem dX7_mend_137 : decode cX7_mend 137 = .ok (.dup, 1) := by decide +kernel
theorem dX7_mend_138 : decode cX7_mend 138 = .ok (.getfield 175, 3) := by decide +kernel
theorem dX7_mend_141 : decode cX7_mend 141 = .ok (.iconst 1, 1) := by decide +kernel
theorem dX7_mend_142 : decode cX7_mend 142 = .ok (.iadd, 1) := by decide +kernel
theorem dX7_mend_143 : decode cX7_mend 143 = .ok (.putfield 175, 3) := by decide +kernel
theorem dX7_mend_146 : decode cX7_mend 146 = .ok (.iconst 0, 1) := by decide +kernel
theorem dX7_mend_147 : decode cX7_mend 147 = .ok (.istore 5, 2) := by decide +kernel
theorem dX7_mend_149 : decode cX7_mend 149 = .ok (.iload 5, 2) := by decide +kernel
theorem dX7_mend_151 : decode cX7_mend 151 = .ok (.bipush 28, 2) := by decide +kernel
theorem dX7_mend_153 : decode cX7_mend 153 = .ok (.if_icmp .ge 27, 3) := by decide +kernel
theorem dX7_mend_156 : decode cX7_mend 156 = .ok (.aload_n 0, 1) := by decide +kernel
theorem dX7_mend_157 : decode cX7_mend 157 = .ok (.getfield 25, 3) := by decide +kernel
theorem dX7_mend_160 : decode cX7_mend 160 = .ok (.iload 5, 2) := by decide +kernel
theorem dX7_mend_162 : decode cX7_mend 162 = .ok (.dup2, 1) := by decide +kernel
theorem dX7_mend_163 : decode cX7_mend 163 = .ok (.laload, 1) := by decide +kernel
theorem dX7_mend_164 : decode cX7_mend 164 = .ok (.aload_n 0, 1) := by decide +kernel
theorem dX7_mend_165 : decode cX7_mend 165 = .ok (.getfield 22, 3) := by decide +kernel
theorem dX7_mend_168 : decode cX7_mend 168 = .ok (.iload 5, 2) := by decide +kernel
theorem dX7_mend_170 : decode cX7_mend 170 = .ok (.iaload, 1) := by decide +kernel
theorem dX7_mend_171 : decode cX7_mend 171 = .ok (.i2l, 1) := by decide +kernel
theorem dX7_mend_172 : decode cX7_mend 172 = .ok (.ladd, 1) := by decide +kernel
theorem dX7_mend_173 : decode cX7_mend 173 = .ok (.lastore, 1) := by decide +kernel
theorem dX7_mend_174 : decode cX7_mend 174 = .ok (.iinc 5 1, 3) := by decide +kernel
theorem dX7_mend_177 : decode cX7_mend 177 = .ok (.goto (-28), 3) := by decide +kernel
theorem dX7_mend_180 : decode cX7_mend 180 = .ok (.aload_n 0, 1) := by decide +kernel
theorem dX7_mend_181 : decode cX7_mend 181 = .ok (.invokevirtual 73, 3) := by decide +kernel
theorem dX7_mend_184 : decode cX7_mend 184 = .ok (.iload 4, 2) := by decide +kernel
theorem dX7_mend_186 : decode cX7_mend 186 = .ok (.ireturn, 1) := by decide +kernel
theorem dX7_steps_0 : decode cX7_steps 0 = .ok (.aload_n 0, 1) := by decide +kernel
theorem dX7_steps_1 : decode cX7_steps 1 = .ok (.iconst 0, 1) := by decide +kernel
theorem dX7_steps_2 : decode cX7_steps 2 = .ok (.putfield 55, 3) := by decide +kernel
theorem dX7_steps_5 : decode cX7_steps 5 = .ok (.aload_n 0, 1) := by decide +kernel
theorem dX7_steps_6 : decode cX7_steps 6 = .ok (.getfield 175, 3) := by decide +kernel
theorem dX7_steps_9 : decode cX7_steps 9 = .ok (.ireturn, 1) := by decide +kernel
set_option maxRecDepth 20000 in
theorem ggX7_average_X7_asks : GoodIn wsX7_average wsX7_asks := goodIn_r _ [7, 8, 9, 10, 11, 12, 13, 14, 15, 16, 17, 18, 19, 20, 21, 22, 23, 24, 25, 26, 27, 28] (by decide +kernel) (by decide +kernel)
set_option maxRecDepth 20000 in
theorem gX7_average_X7_asks : GoodIn wsX7_average (wsV RX7 65 RX7 yX7_asks wsX7_asks) := goodIn_app (goodIn_of _ (by decide +kernel)) ggX7_average_X7_asks
theorem dX7_average_0 : decode cX7_average 0 = .ok (.aload_n 0, 1) := by decide +kernel
theorem dX7_average_1 : decode cX7_average 1 = .ok (.iload_n 1, 1) := by decide +kernel
theorem dX7_average_2 : decode cX7_average 2 = .ok (.ifCond .lt 13, 3) := by decide +kernel
theorem dX7_average_5 : decode cX7_average 5 = .ok (.iload_n 1, 1) := by decide +kernel
theorem dX7_average_6 : decode cX7_average 6 = .ok (.bipush 28, 2) := by decide +kernel
theorem dX7_average_8 : decode cX7_average 8 = .ok (.if_icmp .ge 7, 3) := by decide +kernel
theorem dX7_average_11 : decode cX7_average 11 = .ok (.iconst 1, 1) := by decide +kernel
theorem dX7_average_12 : decode cX7_average 12 = .ok (.goto 4, 3) := by decide +kernel
theorem dX7_average_15 : decode cX7_average 15 = .ok (.iconst 0, 1) := by decide +kernel
theorem dX7_average_16 : decode cX7_average 16 = .ok (.invokevirtual 65, 3) := by decide +kernel
theorem dX7_average_19 : decode cX7_average 19 = .ok (.ifCond .eq 10, 3) := by decide +kernel
theorem dX7_average_22 : decode cX7_average 22 = .ok (.aload_n 0, 1) := by decide +kernel
theorem dX7_average_23 : decode cX7_average 23 = .ok (.getfield 175, 3) := by decide +kernel
theorem dX7_average_26 : decode cX7_average 26 = .ok (.ifCond .ne 7, 3) := by decide +kernel
theorem dX7_average_29 : decode cX7_average 29 = .ok (.dconst 0, 1) := by decide +kernel
theorem dX7_average_30 : decode cX7_average 30 = .ok (.goto 16, 3) := by decide +kernel
theorem dX7_average_33 : decode cX7_average 33 = .ok (.aload_n 0, 1) := by decide +kernel
theorem dX7_average_34 : decode cX7_average 34 = .ok (.getfield 25, 3) := by decide +kernel
theorem dX7_average_37 : decode cX7_average 37 = .ok (.iload_n 1, 1) := by decide +kernel
theorem dX7_average_38 : decode cX7_average 38 = .ok (.laload, 1) := by decide +kernel
theorem dX7_average_39 : decode cX7_average 39 = .ok (.l2d, 1) := by decide +kernel
theorem dX7_average_40 : decode cX7_average 40 = .ok (.aload_n 0, 1) := by decide +kernel
theorem dX7_average_41 : decode cX7_average 41 = .ok (.getfield 175, 3) := by decide +kernel
theorem dX7_average_44 : decode cX7_average 44 = .ok (.i2d, 1) := by decide +kernel
theorem dX7_average_45 : decode cX7_average 45 = .ok (.ddiv, 1) := by decide +kernel
theorem dX7_average_46 : decode cX7_average 46 = .ok (.dreturn, 1) := by decide +kernel
set_option maxRecDepth 20000 in
theorem ggX7_rollBack_X7_asks : GoodIn wsX7_rollBack wsX7_asks := goodIn_r _ [12, 13, 20, 21, 22, 23, 24, 25, 26, 27, 28, 29, 30, 31, 32, 33, 34, 35, 36, 37, 38, 39] (by decide +kernel) (by decide +kernel)
set_option maxRecDepth 20000 in
theorem gX7_rollBack_X7_asks : GoodIn wsX7_rollBack (wsV RX7 65 RX7 yX7_asks wsX7_asks) := goodIn_app (goodIn_of _ (by decide +kernel)) ggX7_rollBack_X7_asks
set_option maxRecDepth 20000 in
theorem ggX7_rollBack_X7_changed : GoodIn wsX7_rollBack wsX7_changed := goodIn_r _ [17, 18, 19, 20, 21, 22, 23, 24, 25, 26, 27, 28, 29, 30, 31, 32, 33, 34, 35, 36, 37, 38, 39] (by decide +kernel) (by decide +kernel)
set_option maxRecDepth 20000 in
theorem gX7_rollBack_X7_changed : GoodIn wsX7_rollBack (wsV RX7 73 RX7 yX7_changed wsX7_changed) := goodIn_app (goodIn_of _ (by decide +kernel)) ggX7_rollBack_X7_changed
theorem dX7_rollBack_0 : decode cX7_rollBack 0 = .ok (.aload_n 0, 1) := by decide +kernel
theorem dX7_rollBack_1 : decode cX7_rollBack 1 = .ok (.aload_n 0, 1) := by decide +kernel
theorem dX7_rollBack_2 : decode cX7_rollBack 2 = .ok (.getfield 83, 3) := by decide +kernel
theorem dX7_rollBack_5 : decode cX7_rollBack 5 = .ok (.ifCond .le 7, 3) := by decide +kernel
theorem dX7_rollBack_8 : decode cX7_rollBack 8 = .ok (.iconst 1, 1) := by decide +kernel
theorem dX7_rollBack_9 : decode cX7_rollBack 9 = .ok (.goto 4, 3) := by decide +kernel
theorem dX7_rollBack_12 : decode cX7_rollBack 12 = .ok (.iconst 0, 1) := by decide +kernel
theorem dX7_rollBack_13 : decode cX7_rollBack 13 = .ok (.invokevirtual 65, 3) := by decide +kernel
theorem dX7_rollBack_16 : decode cX7_rollBack 16 = .ok (.ifCond .ne 5, 3) := by decide +kernel
theorem dX7_rollBack_19 : decode cX7_rollBack 19 = .ok (.iconst 0, 1) := by decide +kernel
theorem dX7_rollBack_20 : decode cX7_rollBack 20 = .ok (.ireturn, 1) := by decide +kernel
theorem dX7_rollBack_21 : decode cX7_rollBack 21 = .ok (.aload_n 0, 1) := by decide +kernel
theorem dX7_rollBack_22 : decode cX7_rollBack 22 = .ok (.dup, 1) := by decide +kernel
theorem dX7_rollBack_23 : decode cX7_rollBack 23 = .ok (.getfield 83, 3) := by decide +kernel
theorem dX7_rollBack_26 : decode cX7_rollBack 26 = .ok (.iconst 1, 1) := by decide +kernel
theorem dX7_rollBack_27 : decode cX7_rollBack 27 = .ok (.isub, 1) := by decide +kernel
theorem dX7_rollBack_28 : decode cX7_rollBack 28 = .ok (.putfield 83, 3) := by decide +kernel
theorem dX7_rollBack_31 : decode cX7_rollBack 31 = .ok (.aload_n 0, 1) := by decide +kernel
theorem dX7_rollBack_32 : decode cX7_rollBack 32 = .ok (.getfield 80, 3) := by decide +kernel
theorem dX7_rollBack_35 : decode cX7_rollBack 35 = .ok (.aload_n 0, 1) := by decide +kernel
theorem dX7_rollBack_36 : decode cX7_rollBack 36 = .ok (.getfield 83, 3) := by decide +kernel
theorem dX7_rollBack_39 : decode cX7_rollBack 39 = .ok (.iadd, 1) := by decide +kernel
theorem dX7_rollBack_40 : decode cX7_rollBack 40 = .ok (.bipush 20, 2) := by decide +kernel
theorem dX7_rollBack_42 : decode cX7_rollBack 42 = .ok (.irem, 1) := by decide +kernel
theorem dX7_rollBack_43 : decode cX7_rollBack 43 = .ok (.istore_n 1, 1) := by decide +kernel
theorem dX7_rollBack_44 : decode cX7_rollBack 44 = .ok (.aload_n 0, 1) := by decide +kernel
theorem dX7_rollBack_45 : decode cX7_rollBack 45 = .ok (.getfield 29, 3) := by decide +kernel
theorem dX7_rollBack_48 : decode cX7_rollBack 48 = .ok (.iload_n 1, 1) := by decide +kernel
theorem dX7_rollBack_49 : decode cX7_rollBack 49 = .ok (.iaload, 1) := by decide +kernel
theorem dX7_rollBack_50 : decode cX7_rollBack 50 = .ok (.iconst (-1), 1) := by decide +kernel
theorem dX7_rollBack_51 : decode cX7_rollBack 51 = .ok (.if_icmp .ne 7, 3) := by decide +kernel
theorem dX7_rollBack_54 : decode cX7_rollBack 54 = .ok (.iconst 1, 1) := by decide +kernel
theorem dX7_rollBack_55 : decode cX7_rollBack 55 = .ok (.goto 4, 3) := by decide +kernel
theorem dX7_rollBack_58 : decode cX7_rollBack 58 = .ok (.iconst 0, 1) := by decide +kernel
theorem dX7_rollBack_59 : decode cX7_rollBack 59 = .ok (.istore_n 2, 1) := by decide +kernel
theorem dX7_rollBack_60 : decode cX7_rollBack 60 = .ok (.iconst 0, 1) := by decide +kernel
theorem dX7_rollBack_61 : decode cX7_rollBack 61 = .ok (.istore_n 3, 1) := by decide +kernel
theorem dX7_rollBack_62 : decode cX7_rollBack 62 = .ok (.iload_n 3, 1) := by decide +kernel
theorem dX7_rollBack_63 : decode cX7_rollBack 63 = .ok (.bipush 28, 2) := by decide +kernel
theorem dX7_rollBack_65 : decode cX7_rollBack 65 = .ok (.if_icmp .ge 50, 3) := by decide +kernel
theorem dX7_rollBack_68 : decode cX7_rollBack 68 = .ok (.aload_n 0, 1) := by decide +kernel
theorem dX7_rollBack_69 : decode cX7_rollBack 69 = .ok (.getfield 25, 3) := by decide +kernel
theorem dX7_rollBack_72 : decode cX7_rollBack 72 = .ok (.iload_n 3, 1) := by decide +kernel
theorem dX7_rollBack_73 : decode cX7_rollBack 73 = .ok (.dup2, 1) := by decide +kernel
theorem dX7_rollBack_74 : decode cX7_rollBack 74 = .ok (.laload, 1) := by decide +kernel
theorem dX7_rollBack_75 : decode cX7_rollBack 75 = .ok (.iload_n 2, 1) := by decide +kernel
theorem dX7_rollBack_76 : decode cX7_rollBack 76 = .ok (.ifCond .eq 13, 3) := by decide +kernel
theorem dX7_rollBack_79 : decode cX7_rollBack 79 = .ok (.aload_n 0, 1) := by decide +kernel
theorem dX7_rollBack_80 : decode cX7_rollBack 80 = .ok (.getfield 22, 3) := by decide +kernel
theorem dX7_rollBack_83 : decode cX7_rollBack 83 = .ok (.iload_n 3, 1) := by decide +kernel
theorem dX7_rollBack_84 : decode cX7_rollBack 84 = .ok (.iaload, 1) := by decide +kernel
theorem dX7_rollBack_85 : decode cX7_rollBack 85 = .ok (.i2l, 1) := by decide +kernel
theorem dX7_rollBack_86 : decode cX7_rollBack 86 = .ok (.goto 4, 3) := by decide +kernel
theorem dX7_rollBack_89 : decode cX7_rollBack 89 = .ok (.lconst 0, 1) := by decide +kernel
theorem dX7_rollBack_90 : decode cX7_rollBack 90 = .ok (.lsub, 1) := by decide +kernel
theorem dX7_rollBack_91 : decode cX7_rollBack 91 = .ok (.lastore, 1) := by decide +kernel
theorem dX7_rollBack_92 : decode cX7_rollBack 92 = .ok (.aload_n 0, 1) := by decide +kernel
theorem dX7_rollBack_93 : decode cX7_rollBack 93 = .ok (.getfield 22, 3) := by decide +kernel
theorem dX7_rollBack_96 : decode cX7_rollBack 96 = .ok (.iload_n 3, 1) := by decide +kernel
theorem dX7_rollBack_97 : decode cX7_rollBack 97 = .ok (.aload_n 0, 1) := by decide +kernel
theorem dX7_rollBack_98 : decode cX7_rollBack 98 = .ok (.getfield 32, 3) := by decide +kernel
theorem dX7_rollBack_101 : decode cX7_rollBack 101 = .ok (.bipush 28, 2) := by decide +kernel
theorem dX7_rollBack_103 : decode cX7_rollBack 103 = .ok (.iload_n 1, 1) := by decide +kernel
theorem dX7_rollBack_104 : decode cX7_rollBack 104 = .ok (.imul, 1) := by decide +kernel
theorem dX7_rollBack_105 : decode cX7_rollBack 105 = .ok (.iload_n 3, 1) := by decide +kernel
theorem dX7_rollBack_106 : decode cX7_rollBack 106 = .ok (.iadd, 1) := by decide +kernel
theorem dX7_rollBack_107 : decode cX7_rollBack 107 = .ok (.iaload, 1) := by decide +kernel
theorem dX7_rollBack_108 : decode cX7_rollBack 108 = .ok (.iastore, 1) := by decide +kernel
theorem dX7_rollBack_109 : decode cX7_rollBack 109 = .ok (.iinc 3 1, 3) := by decide +kernel
theorem dX7_rollBack_112 : decode cX7_rollBack 112 = .ok (.goto (-50), 3) := by decide +kernel
theorem dX7_rollBack_115 : decode cX7_rollBack 115 = .ok (.aload_n 0, 1) := by decide +kernel
theorem dX7_rollBack_116 : decode cX7_rollBack 116 = .ok (.dup, 1) := by decide +kernel
theorem dX7_rollBack_117 : decode cX7_rollBack 117 = .ok (.getfield 175, 3) := by decide +kernel
theorem dX7_rollBack_120 : decode cX7_rollBack 120 = .ok (.iload_n 2, 1) := by decide +kernel
theorem dX7_rollBack_121 : decode cX7_rollBack 121 = .ok (.ifCond .eq 7, 3) := by decide +kernel
theorem dX7_rollBack_124 : decode cX7_rollBack 124 = .ok (.iconst 1, 1) := by decide +kernel
theorem dX7_rollBack_125 : decode cX7_rollBack 125 = .ok (.goto 4, 3) := by decide +kernel
theorem dX7_rollBack_128 : decode cX7_rollBack 128 = .ok (.iconst 0, 1) := by decide +kernel
theorem dX7_rollBack_129 : decode cX7_rollBack 129 = .ok (.isub, 1) := by decide +kernel
theorem dX7_rollBack_130 : decode cX7_rollBack 130 = .ok (.putfield 175, 3) := by decide +kernel
theorem dX7_rollBack_133 : decode cX7_rollBack 133 = .ok (.aload_n 0, 1) := by decide +kernel
theorem dX7_rollBack_134 : decode cX7_rollBack 134 = .ok (.invokevirtual 73, 3) := by decide +kernel
theorem dX7_rollBack_137 : decode cX7_rollBack 137 = .ok (.aload_n 0, 1) := by decide +kernel
theorem dX7_rollBack_138 : decode cX7_rollBack 138 = .ok (.getfield 83, 3) := by decide +kernel
theorem dX7_rollBack_141 : decode cX7_rollBack 141 = .ok (.ireturn, 1) := by decide +kernel

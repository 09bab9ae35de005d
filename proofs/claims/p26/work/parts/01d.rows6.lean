set_option maxRecDepth 20000 in
theorem ggX6_init_X5_init : GoodIn wsX6_init wsX5_init := goodIn_r _ [28, 29, 2, 3, 30, 31, 32, 33, 34, 35, 36, 37, 38, 39, 40, 41, 78, 79, 80, 81, 82, 83, 84, 85] (by decide +kernel) (by decide +kernel)
set_option maxRecDepth 20000 in
theorem gX6_init_X5_init_n21 : GoodIn wsX6_init (wsX5_init) := ggX6_init_X5_init
set_option maxRecDepth 20000 in
theorem ggX6_init_X0_init : GoodIn wsX6_init wsX0_init := goodIn_r _ [43, 44, 2, 3, 45, 32, 46, 47, 86, 87] (by decide +kernel) (by decide +kernel)
set_option maxRecDepth 20000 in
theorem gX6_init_X0_init_n28 : GoodIn wsX6_init (wsX0_init) := ggX6_init_X0_init
set_option maxRecDepth 20000 in
theorem ggX6_init_X3_init : GoodIn wsX6_init wsX3_init := goodIn_r _ [49, 50, 2, 3, 51, 32, 52, 53, 54, 55, 88, 89, 90, 91] (by decide +kernel) (by decide +kernel)
set_option maxRecDepth 20000 in
theorem gX6_init_X3_init_n35 : GoodIn wsX6_init (wsX3_init) := ggX6_init_X3_init
set_option maxRecDepth 20000 in
theorem ggX6_init_X1_init : GoodIn wsX6_init wsX1_init := goodIn_r _ [57, 58, 2, 3, 59, 32, 60, 61, 30, 62, 63, 64, 92, 93, 94, 95, 96] (by decide +kernel) (by decide +kernel)
set_option maxRecDepth 20000 in
theorem gX6_init_X1_init_n42 : GoodIn wsX6_init (wsX1_init) := ggX6_init_X1_init
set_option maxRecDepth 20000 in
theorem ggX6_init_X4_init : GoodIn wsX6_init wsX4_init := goodIn_r _ [66, 67, 2, 3, 32, 68, 30, 69, 70, 97, 98, 99] (by decide +kernel) (by decide +kernel)
set_option maxRecDepth 20000 in
theorem gX6_init_X4_init_n49 : GoodIn wsX6_init (wsX4_init) := ggX6_init_X4_init
theorem dX6_init_0 : decode cX6_init 0 = .ok (.aload_n 0, 1) := by decide +kernel
theorem dX6_init_1 : decode cX6_init 1 = .ok (.invokespecial 3, 3) := by decide +kernel
theorem dX6_init_4 : decode cX6_init 4 = .ok (.aload_n 0, 1) := by decide +kernel
theorem dX6_init_5 : decode cX6_init 5 = .ok (.iconst 5, 1) := by decide +kernel
theorem dX6_init_6 : decode cX6_init 6 = .ok (.anewarray 9, 3) := by decide +kernel
theorem dX6_init_9 : decode cX6_init 9 = .ok (.putfield 11, 3) := by decide +kernel
theorem dX6_init_12 : decode cX6_init 12 = .ok (.aload_n 0, 1) := by decide +kernel
theorem dX6_init_13 : decode cX6_init 13 = .ok (.iconst 0, 1) := by decide +kernel
theorem dX6_init_14 : decode cX6_init 14 = .ok (.putfield 15, 3) := by decide +kernel
theorem dX6_init_17 : decode cX6_init 17 = .ok (.aload_n 0, 1) := by decide +kernel
theorem dX6_init_18 : decode cX6_init 18 = .ok (.new 19, 3) := by decide +kernel
theorem dX6_init_21 : decode cX6_init 21 = .ok (.dup, 1) := by decide +kernel
theorem dX6_init_22 : decode cX6_init 22 = .ok (.invokespecial 21, 3) := by decide +kernel
theorem dX6_init_25 : decode cX6_init 25 = .ok (.putfield 22, 3) := by decide +kernel
theorem dX6_init_28 : decode cX6_init 28 = .ok (.aload_n 0, 1) := by decide +kernel
theorem dX6_init_29 : decode cX6_init 29 = .ok (.new 26, 3) := by decide +kernel
theorem dX6_init_32 : decode cX6_init 32 = .ok (.dup, 1) := by decide +kernel
theorem dX6_init_33 : decode cX6_init 33 = .ok (.invokespecial 28, 3) := by decide +kernel
theorem dX6_init_36 : decode cX6_init 36 = .ok (.putfield 29, 3) := by decide +kernel
theorem dX6_init_39 : decode cX6_init 39 = .ok (.aload_n 0, 1) := by decide +kernel
theorem dX6_init_40 : decode cX6_init 40 = .ok (.new 33, 3) := by decide +kernel
theorem dX6_init_43 : decode cX6_init 43 = .ok (.dup, 1) := by decide +kernel
theorem dX6_init_44 : decode cX6_init 44 = .ok (.invokespecial 35, 3) := by decide +kernel
theorem dX6_init_47 : decode cX6_init 47 = .ok (.putfield 36, 3) := by decide +kernel
theorem dX6_init_50 : decode cX6_init 50 = .ok (.aload_n 0, 1) := by decide +kernel
theorem dX6_init_51 : decode cX6_init 51 = .ok (.new 40, 3) := by decide +kernel
theorem dX6_init_54 : decode cX6_init 54 = .ok (.dup, 1) := by decide +kernel
theorem dX6_init_55 : decode cX6_init 55 = .ok (.invokespecial 42, 3) := by decide +kernel
theorem dX6_init_58 : decode cX6_init 58 = .ok (.putfield 43, 3) := by decide +kernel
theorem dX6_init_61 : decode cX6_init 61 = .ok (.aload_n 0, 1) := by decide +kernel
theorem dX6_init_62 : decode cX6_init 62 = .ok (.new 47, 3) := by decide +kernel
theorem dX6_init_65 : decode cX6_init 65 = .ok (.dup, 1) := by decide +kernel
theorem dX6_init_66 : decode cX6_init 66 = .ok (.invokespecial 49, 3) := by decide +kernel
theorem dX6_init_69 : decode cX6_init 69 = .ok (.putfield 50, 3) := by decide +kernel
theorem dX6_init_72 : decode cX6_init 72 = .ok (.return_, 1) := by decide +kernel
set_option maxRecDepth 20000 in
theorem ggX6_addSentence_X2_init : GoodIn wsX6_addSentence wsX2_init := goodIn_r _ [10, 11, 12, 13, 14, 15, 16, 17, 18, 19, 20, 21, 22, 23, 31, 32, 33, 34] (by decide +kernel) (by decide +kernel)
set_option maxRecDepth 20000 in
theorem gX6_addSentence_X2_init : GoodIn wsX6_addSentence (wsX2_init) := ggX6_addSentence_X2_init
theorem dX6_addSentence_0 : decode cX6_addSentence 0 = .ok (.aload_n 0, 1) := by decide +kernel
theorem dX6_addSentence_1 : decode cX6_addSentence 1 = .ok (.getfield 15, 3) := by decide +kernel
theorem dX6_addSentence_4 : decode cX6_addSentence 4 = .ok (.ifCond .lt 15, 3) := by decide +kernel
theorem dX6_addSentence_7 : decode cX6_addSentence 7 = .ok (.aload_n 0, 1) := by decide +kernel
theorem dX6_addSentence_8 : decode cX6_addSentence 8 = .ok (.getfield 15, 3) := by decide +kernel
theorem dX6_addSentence_11 : decode cX6_addSentence 11 = .ok (.aload_n 0, 1) := by decide +kernel
theorem dX6_addSentence_12 : decode cX6_addSentence 12 = .ok (.getfield 11, 3) := by decide +kernel
theorem dX6_addSentence_15 : decode cX6_addSentence 15 = .ok (.arraylength, 1) := by decide +kernel
theorem dX6_addSentence_16 : decode cX6_addSentence 16 = .ok (.if_icmp .lt 13, 3) := by decide +kernel
theorem dX6_addSentence_19 : decode cX6_addSentence 19 = .ok (.new 54, 3) := by decide +kernel
theorem dX6_addSentence_22 : decode cX6_addSentence 22 = .ok (.dup, 1) := by decide +kernel
theorem dX6_addSentence_23 : decode cX6_addSentence 23 = .ok (.ldc 56, 2) := by decide +kernel
theorem dX6_addSentence_25 : decode cX6_addSentence 25 = .ok (.invokespecial 58, 3) := by decide +kernel
theorem dX6_addSentence_28 : decode cX6_addSentence 28 = .ok (.athrow, 1) := by decide +kernel
theorem dX6_addSentence_29 : decode cX6_addSentence 29 = .ok (.aload_n 0, 1) := by decide +kernel
theorem dX6_addSentence_30 : decode cX6_addSentence 30 = .ok (.getfield 11, 3) := by decide +kernel
theorem dX6_addSentence_33 : decode cX6_addSentence 33 = .ok (.aload_n 0, 1) := by decide +kernel
theorem dX6_addSentence_34 : decode cX6_addSentence 34 = .ok (.getfield 15, 3) := by decide +kernel
theorem dX6_addSentence_37 : decode cX6_addSentence 37 = .ok (.new 9, 3) := by decide +kernel
theorem dX6_addSentence_40 : decode cX6_addSentence 40 = .ok (.dup, 1) := by decide +kernel
theorem dX6_addSentence_41 : decode cX6_addSentence 41 = .ok (.invokespecial 61, 3) := by decide +kernel
theorem dX6_addSentence_44 : decode cX6_addSentence 44 = .ok (.aastore, 1) := by decide +kernel
theorem dX6_addSentence_45 : decode cX6_addSentence 45 = .ok (.aload_n 0, 1) := by decide +kernel
theorem dX6_addSentence_46 : decode cX6_addSentence 46 = .ok (.dup, 1) := by decide +kernel
theorem dX6_addSentence_47 : decode cX6_addSentence 47 = .ok (.getfield 15, 3) := by decide +kernel
theorem dX6_addSentence_50 : decode cX6_addSentence 50 = .ok (.iconst 1, 1) := by decide +kernel
theorem dX6_addSentence_51 : decode cX6_addSentence 51 = .ok (.iadd, 1) := by decide +kernel
theorem dX6_addSentence_52 : decode cX6_addSentence 52 = .ok (.putfield 15, 3) := by decide +kernel
theorem dX6_addSentence_55 : decode cX6_addSentence 55 = .ok (.aload_n 0, 1) := by decide +kernel
theorem dX6_addSentence_56 : decode cX6_addSentence 56 = .ok (.getfield 15, 3) := by decide +kernel
theorem dX6_addSentence_59 : decode cX6_addSentence 59 = .ok (.iconst 1, 1) := by decide +kernel
theorem dX6_addSentence_60 : decode cX6_addSentence 60 = .ok (.isub, 1) := by decide +kernel
theorem dX6_addSentence_61 : decode cX6_addSentence 61 = .ok (.ireturn, 1) := by decide +kernel
set_option maxRecDepth 20000 in
theorem ggX6_addWord_X6_find : GoodIn wsX6_addWord wsX6_find := goodIn_ca (goodIn_r _ [9, 10, 11, 12, 24, 25, 26, 27, 28, 29, 30] (by decide +kernel) (by decide +kernel)) (goodIn_sub (fun _ h => List.mem_cons_of_mem _ (List.mem_append_right _ h)) (by decide +kernel))
set_option maxRecDepth 20000 in
theorem gX6_addWord_X6_find : GoodIn wsX6_addWord (wsV RX6 62 RX6 yX6_find wsX6_find) := goodIn_app (goodIn_of _ (by decide +kernel)) ggX6_addWord_X6_find
set_option maxRecDepth 20000 in
theorem ggX6_addWord_X2_size : GoodIn wsX6_addWord wsX2_size := goodIn_r _ [17, 18, 31, 32, 33, 34] (by decide +kernel) (by decide +kernel)
set_option maxRecDepth 20000 in
theorem gX6_addWord_X2_size : GoodIn wsX6_addWord (wsV RX6 71 RX2 yX2_size wsX2_size) := goodIn_app (goodIn_of _ (by decide +kernel)) ggX6_addWord_X2_size
set_option maxRecDepth 20000 in
theorem ggX6_addWord_X2_append : GoodIn wsX6_addWord wsX2_append := goodIn_r _ [22, 18, 23, 31, 32, 33, 34] (by decide +kernel) (by decide +kernel)
set_option maxRecDepth 20000 in
theorem gX6_addWord_X2_append : GoodIn wsX6_addWord (wsV RX6 77 RX2 yX2_append wsX2_append) := goodIn_app (goodIn_of _ (by decide +kernel)) ggX6_addWord_X2_append
theorem dX6_addWord_0 : decode cX6_addWord 0 = .ok (.aload_n 0, 1) := by decide +kernel
theorem dX6_addWord_1 : decode cX6_addWord 1 = .ok (.iload_n 1, 1) := by decide +kernel
theorem dX6_addWord_2 : decode cX6_addWord 2 = .ok (.invokevirtual 62, 3) := by decide +kernel
theorem dX6_addWord_5 : decode cX6_addWord 5 = .ok (.astore_n 3, 1) := by decide +kernel
theorem dX6_addWord_6 : decode cX6_addWord 6 = .ok (.iload_n 2, 1) := by decide +kernel
theorem dX6_addWord_7 : decode cX6_addWord 7 = .ok (.ifCond .lt 8, 3) := by decide +kernel
theorem dX6_addWord_10 : decode cX6_addWord 10 = .ok (.iload_n 2, 1) := by decide +kernel
theorem dX6_addWord_11 : decode cX6_addWord 11 = .ok (.iconst 4, 1) := by decide +kernel
theorem dX6_addWord_12 : decode cX6_addWord 12 = .ok (.if_icmp .lt 13, 3) := by decide +kernel
theorem dX6_addWord_15 : decode cX6_addWord 15 = .ok (.new 66, 3) := by decide +kernel
theorem dX6_addWord_18 : decode cX6_addWord 18 = .ok (.dup, 1) := by decide +kernel
theorem dX6_addWord_19 : decode cX6_addWord 19 = .ok (.ldc 68, 2) := by decide +kernel
theorem dX6_addWord_21 : decode cX6_addWord 21 = .ok (.invokespecial 70, 3) := by decide +kernel
theorem dX6_addWord_24 : decode cX6_addWord 24 = .ok (.athrow, 1) := by decide +kernel
theorem dX6_addWord_25 : decode cX6_addWord 25 = .ok (.aload_n 3, 1) := by decide +kernel
theorem dX6_addWord_26 : decode cX6_addWord 26 = .ok (.invokevirtual 71, 3) := by decide +kernel
theorem dX6_addWord_29 : decode cX6_addWord 29 = .ok (.bipush 6, 2) := by decide +kernel
theorem dX6_addWord_31 : decode cX6_addWord 31 = .ok (.if_icmp .lt 13, 3) := by decide +kernel
theorem dX6_addWord_34 : decode cX6_addWord 34 = .ok (.new 54, 3) := by decide +kernel
theorem dX6_addWord_37 : decode cX6_addWord 37 = .ok (.dup, 1) := by decide +kernel
theorem dX6_addWord_38 : decode cX6_addWord 38 = .ok (.ldc 75, 2) := by decide +kernel
theorem dX6_addWord_40 : decode cX6_addWord 40 = .ok (.invokespecial 58, 3) := by decide +kernel
theorem dX6_addWord_43 : decode cX6_addWord 43 = .ok (.athrow, 1) := by decide +kernel
theorem dX6_addWord_44 : decode cX6_addWord 44 = .ok (.aload_n 3, 1) := by decide +kernel
theorem dX6_addWord_45 : decode cX6_addWord 45 = .ok (.iload_n 2, 1) := by decide +kernel
theorem dX6_addWord_46 : decode cX6_addWord 46 = .ok (.invokevirtual 77, 3) := by decide +kernel
theorem dX6_addWord_49 : decode cX6_addWord 49 = .ok (.aload_n 3, 1) := by decide +kernel
theorem dX6_addWord_50 : decode cX6_addWord 50 = .ok (.invokevirtual 71, 3) := by decide +kernel
theorem dX6_addWord_53 : decode cX6_addWord 53 = .ok (.ireturn, 1) := by decide +kernel
theorem dX6_sentences_0 : decode cX6_sentences 0 = .ok (.aload_n 0, 1) := by decide +kernel
theorem dX6_sentences_1 : decode cX6_sentences 1 = .ok (.getfield 15, 3) := by decide +kernel
theorem dX6_sentences_4 : decode cX6_sentences 4 = .ok (.ireturn, 1) := by decide +kernel
set_option maxRecDepth 20000 in
theorem ggX6_words_X6_find : GoodIn wsX6_words wsX6_find := goodIn_ca (goodIn_r _ [5, 6, 7, 8, 15, 16, 17, 18, 19, 20, 21] (by decide +kernel) (by decide +kernel)) (goodIn_sub (fun _ h => List.mem_cons_of_mem _ (List.mem_append_right _ h)) (by decide +kernel))
set_option maxRecDepth 20000 in
theorem gX6_words_X6_find : GoodIn wsX6_words (wsV RX6 62 RX6 yX6_find wsX6_find) := goodIn_app (goodIn_of _ (by decide +kernel)) ggX6_words_X6_find
set_option maxRecDepth 20000 in
theorem ggX6_words_X2_size : GoodIn wsX6_words wsX2_size := goodIn_r _ [13, 14, 22, 23, 24, 25] (by decide +kernel) (by decide +kernel)
set_option maxRecDepth 20000 in
theorem gX6_words_X2_size : GoodIn wsX6_words (wsV RX6 71 RX2 yX2_size wsX2_size) := goodIn_app (goodIn_of _ (by decide +kernel)) ggX6_words_X2_size
theorem dX6_words_0 : decode cX6_words 0 = .ok (.aload_n 0, 1) := by decide +kernel
theorem dX6_words_1 : decode cX6_words 1 = .ok (.iload_n 1, 1) := by decide +kernel
theorem dX6_words_2 : decode cX6_words 2 = .ok (.invokevirtual 62, 3) := by decide +kernel
theorem dX6_words_5 : decode cX6_words 5 = .ok (.invokevirtual 71, 3) := by decide +kernel
theorem dX6_words_8 : decode cX6_words 8 = .ok (.ireturn, 1) := by decide +kernel
set_option maxRecDepth 20000 in
theorem ggX6_kind_X6_find : GoodIn wsX6_kind wsX6_find := goodIn_ca (goodIn_r _ [5, 6, 7, 8, 25, 26, 27, 28, 29, 30, 31] (by decide +kernel) (by decide +kernel)) (goodIn_sub (fun _ h => List.mem_cons_of_mem _ (List.mem_append_right _ h)) (by decide +kernel))
set_option maxRecDepth 20000 in
theorem gX6_kind_X6_find : GoodIn wsX6_kind (wsV RX6 62 RX6 yX6_find wsX6_find) := goodIn_app (goodIn_of _ (by decide +kernel)) ggX6_kind_X6_find
set_option maxRecDepth 20000 in
theorem ggX6_kind_X6_checkWord : GoodIn wsX6_kind wsX6_checkWord := goodIn_ca (goodIn_r _ [11, 6, 7, 12, 13, 14, 15, 16, 17, 32, 33, 34, 35] (by decide +kernel) (by decide +kernel)) (goodIn_sub (fun _ h => List.mem_cons_of_mem _ (List.mem_append_right _ h)) (by decide +kernel))
set_option maxRecDepth 20000 in
theorem gX6_kind_X6_checkWord : GoodIn wsX6_kind (va_wsS RX6 81 yX6_checkWord wsX6_checkWord) := goodIn_app (goodIn_of _ (by decide +kernel)) ggX6_kind_X6_checkWord
set_option maxRecDepth 20000 in
theorem ggX6_kind_X2_kindAt : GoodIn wsX6_kind wsX2_kindAt := goodIn_r _ [21, 22, 23, 4, 24, 32, 33, 34, 35] (by decide +kernel) (by decide +kernel)
set_option maxRecDepth 20000 in
theorem gX6_kind_X2_kindAt : GoodIn wsX6_kind (wsV RX6 85 RX2 yX2_kindAt wsX2_kindAt) := goodIn_app (goodIn_of _ (by decide +kernel)) ggX6_kind_X2_kindAt
theorem dX6_kind_0 : decode cX6_kind 0 = .ok (.aload_n 0, 1) := by decide +kernel
theorem dX6_kind_1 : decode cX6_kind 1 = .ok (.iload_n 1, 1) := by decide +kernel
theorem dX6_kind_2 : decode cX6_kind 2 = .ok (.invokevirtual 62, 3) := by decide +kernel
theorem dX6_kind_5 : decode cX6_kind 5 = .ok (.astore_n 3, 1) := by decide +kernel
theorem dX6_kind_6 : decode cX6_kind 6 = .ok (.aload_n 3, 1) := by decide +kernel
theorem dX6_kind_7 : decode cX6_kind 7 = .ok (.iload_n 2, 1) := by decide +kernel
theorem dX6_kind_8 : decode cX6_kind 8 = .ok (.invokestatic 81, 3) := by decide +kernel
theorem dX6_kind_11 : decode cX6_kind 11 = .ok (.aload_n 3, 1) := by decide +kernel
theorem dX6_kind_12 : decode cX6_kind 12 = .ok (.iload_n 2, 1) := by decide +kernel
theorem dX6_kind_13 : decode cX6_kind 13 = .ok (.invokevirtual 85, 3) := by decide +kernel
theorem dX6_kind_16 : decode cX6_kind 16 = .ok (.ireturn, 1) := by decide +kernel
set_option maxRecDepth 20000 in
theorem ggX6_setWeight_X6_checkFeature : GoodIn wsX6_setWeight wsX6_checkFeature := goodIn_ca (goodIn_r _ [7, 8, 9] (by decide +kernel) (by decide +kernel)) (goodIn_sub (fun _ h => List.mem_cons_of_mem _ (List.mem_append_right _ h)) (by decide +kernel))
set_option maxRecDepth 20000 in
theorem gX6_setWeight_X6_checkFeature : GoodIn wsX6_setWeight (va_wsS RX6 89 yX6_checkFeature wsX6_checkFeature) := goodIn_app (goodIn_of _ (by decide +kernel)) ggX6_setWeight_X6_checkFeature
set_option maxRecDepth 20000 in
theorem ggX6_setWeight_X5_get : GoodIn wsX6_setWeight wsX5_get := goodIn_r _ [14, 15, 16, 17, 13, 18, 52, 53, 54, 55, 56, 57, 58, 59] (by decide +kernel) (by decide +kernel)
set_option maxRecDepth 20000 in
theorem gX6_setWeight_X5_get : GoodIn wsX6_setWeight (wsV RX6 94 RX5 yX5_get wsX5_get) := goodIn_app (goodIn_of _ (by decide +kernel)) ggX6_setWeight_X5_get
set_option maxRecDepth 20000 in
theorem ggX6_setWeight_X5_keep : GoodIn wsX6_setWeight wsX5_keep := goodIn_r _ [22, 23, 15, 24, 25, 26, 27, 28, 29, 30, 31, 32, 33, 34, 35, 36, 37, 38, 39, 13, 40, 52, 53, 54, 55, 56, 57, 58, 59] (by decide +kernel) (by decide +kernel)
set_option maxRecDepth 20000 in
theorem gX6_setWeight_X5_keep : GoodIn wsX6_setWeight (wsV RX6 97 RX5 yX5_keep wsX5_keep) := goodIn_app (goodIn_of _ (by decide +kernel)) ggX6_setWeight_X5_keep
set_option maxRecDepth 20000 in
theorem ggX6_setWeight_X5_put : GoodIn wsX6_setWeight wsX5_put := goodIn_r _ [44, 15, 16, 17, 13, 18, 52, 53, 54, 55, 56, 57, 58, 59] (by decide +kernel) (by decide +kernel)
set_option maxRecDepth 20000 in
theorem gX6_setWeight_X5_put : GoodIn wsX6_setWeight (wsV RX6 100 RX5 yX5_put wsX5_put) := goodIn_app (goodIn_of _ (by decide +kernel)) ggX6_setWeight_X5_put
theorem dX6_setWeight_0 : decode cX6_setWeight 0 = .ok (.iload_n 1, 1) := by decide +kernel
theorem dX6_setWeight_1 : decode cX6_setWeight 1 = .ok (.invokestatic 89, 3) := by decide +kernel
theorem dX6_setWeight_4 : decode cX6_setWeight 4 = .ok (.iload_n 2, 1) := by decide +kernel
theorem dX6_setWeight_5 : decode cX6_setWeight 5 = .ok (.bipush (-100), 2) := by decide +kernel
theorem dX6_setWeight_7 : decode cX6_setWeight 7 = .ok (.if_icmp .lt 9, 3) := by decide +kernel
theorem dX6_setWeight_10 : decode cX6_setWeight 10 = .ok (.iload_n 2, 1) := by decide +kernel
theorem dX6_setWeight_11 : decode cX6_setWeight 11 = .ok (.bipush 100, 2) := by decide +kernel
theorem dX6_setWeight_13 : decode cX6_setWeight 13 = .ok (.if_icmp .le 13, 3) := by decide +kernel
theorem dX6_setWeight_16 : decode cX6_setWeight 16 = .ok (.new 66, 3) := by decide +kernel
theorem dX6_setWeight_19 : decode cX6_setWeight 19 = .ok (.dup, 1) := by decide +kernel
theorem dX6_setWeight_20 : decode cX6_setWeight 20 = .ok (.ldc 92, 2) := by decide +kernel
theorem dX6_setWeight_22 : decode cX6_setWeight 22 = .ok (.invokespecial 70, 3) := by decide +kernel
theorem dX6_setWeight_25 : decode cX6_setWeight 25 = .ok (.athrow, 1) := by decide +kernel
theorem dX6_setWeight_26 : decode cX6_setWeight 26 = .ok (.aload_n 0, 1) := by decide +kernel
theorem dX6_setWeight_27 : decode cX6_setWeight 27 = .ok (.getfield 22, 3) := by decide +kernel
theorem dX6_setWeight_30 : decode cX6_setWeight 30 = .ok (.iload_n 1, 1) := by decide +kernel
theorem dX6_setWeight_31 : decode cX6_setWeight 31 = .ok (.invokevirtual 94, 3) := by decide +kernel
theorem dX6_setWeight_34 : decode cX6_setWeight 34 = .ok (.istore_n 3, 1) := by decide +kernel
theorem dX6_setWeight_35 : decode cX6_setWeight 35 = .ok (.aload_n 0, 1) := by decide +kernel
theorem dX6_setWeight_36 : decode cX6_setWeight 36 = .ok (.getfield 22, 3) := by decide +kernel
theorem dX6_setWeight_39 : decode cX6_setWeight 39 = .ok (.invokevirtual 97, 3) := by decide +kernel
theorem dX6_setWeight_42 : decode cX6_setWeight 42 = .ok (.aload_n 0, 1) := by decide +kernel
theorem dX6_setWeight_43 : decode cX6_setWeight 43 = .ok (.getfield 22, 3) := by decide +kernel
theorem dX6_setWeight_46 : decode cX6_setWeight 46 = .ok (.iload_n 1, 1) := by decide +kernel
theorem dX6_setWeight_47 : decode cX6_setWeight 47 = .ok (.iload_n 2, 1) := by decide +kernel
theorem dX6_setWeight_48 : decode cX6_setWeight 48 = .ok (.invokevirtual 100, 3) := by decide +kernel
theorem dX6_setWeight_51 : decode cX6_setWeight 51 = .ok (.iload_n 3, 1) := by decide +kernel
theorem dX6_setWeight_52 : decode cX6_setWeight 52 = .ok (.ireturn, 1) := by decide +kernel
set_option maxRecDepth 20000 in
theorem ggX6_weight_X6_checkFeature : GoodIn wsX6_weight wsX6_checkFeature := goodIn_ca (goodIn_r _ [5, 6, 7] (by decide +kernel) (by decide +kernel)) (goodIn_sub (fun _ h => List.mem_cons_of_mem _ (List.mem_append_right _ h)) (by decide +kernel))
set_option maxRecDepth 20000 in
theorem gX6_weight_X6_checkFeature : GoodIn wsX6_weight (va_wsS RX6 89 yX6_checkFeature wsX6_checkFeature) := goodIn_app (goodIn_of _ (by decide +kernel)) ggX6_weight_X6_checkFeature
set_option maxRecDepth 20000 in
theorem ggX6_weight_X5_get : GoodIn wsX6_weight wsX5_get := goodIn_r _ [12, 13, 14, 15, 11, 16, 24, 25, 26, 27, 28, 29, 30, 31] (by decide +kernel) (by decide +kernel)
set_option maxRecDepth 20000 in
theorem gX6_weight_X5_get : GoodIn wsX6_weight (wsV RX6 94 RX5 yX5_get wsX5_get) := goodIn_app (goodIn_of _ (by decide +kernel)) ggX6_weight_X5_get
theorem dX6_weight_0 : decode cX6_weight 0 = .ok (.iload_n 1, 1) := by decide +kernel
theorem dX6_weight_1 : decode cX6_weight 1 = .ok (.invokestatic 89, 3) := by decide +kernel
theorem dX6_weight_4 : decode cX6_weight 4 = .ok (.aload_n 0, 1) := by decide +kernel
theorem dX6_weight_5 : decode cX6_weight 5 = .ok (.getfield 22, 3) := by decide +kernel
theorem dX6_weight_8 : decode cX6_weight 8 = .ok (.iload_n 1, 1) := by decide +kernel
theorem dX6_weight_9 : decode cX6_weight 9 = .ok (.invokevirtual 94, 3) := by decide +kernel
theorem dX6_weight_12 : decode cX6_weight 12 = .ok (.ireturn, 1) := by decide +kernel
set_option maxRecDepth 20000 in
theorem ggX6_feature_X6_find : GoodIn wsX6_feature wsX6_find := goodIn_ca (goodIn_r _ [5, 6, 7, 8, 44, 45, 46, 47, 48, 49, 50] (by decide +kernel) (by decide +kernel)) (goodIn_sub (fun _ h => List.mem_cons_of_mem _ (List.mem_append_left _ (List.mem_append_right _ h))) (by decide +kernel))
set_option maxRecDepth 20000 in
theorem gX6_feature_X6_find : GoodIn wsX6_feature (wsV RX6 62 RX6 yX6_find wsX6_find) := goodIn_app (goodIn_of _ (by decide +kernel)) ggX6_feature_X6_find
set_option maxRecDepth 20000 in
theorem ggX6_feature_X6_checkArc : GoodIn wsX6_feature wsX6_checkArc := goodIn_ca (goodIn_ca (goodIn_r _ [11, 6, 7, 12, 13, 14, 15, 16, 17, 18, 19, 20, 21, 4, 22, 51, 52, 53, 54] (by decide +kernel) (by decide +kernel)) (goodIn_sub (fun _ h => List.mem_cons_of_mem _ (List.mem_append_left _ (List.mem_append_right _ h))) (by decide +kernel))) (goodIn_sub (fun _ h => List.mem_cons_of_mem _ (List.mem_append_right _ h)) (by decide +kernel))
set_option maxRecDepth 20000 in
theorem gX6_feature_X6_checkArc : GoodIn wsX6_feature (va_wsS RX6 104 yX6_checkArc wsX6_checkArc) := goodIn_app (goodIn_of _ (by decide +kernel)) ggX6_feature_X6_checkArc
set_option maxRecDepth 20000 in
theorem ggX6_feature_X6_byDistance : GoodIn wsX6_feature wsX6_byDistance := goodIn_r _ [25, 26, 27, 28, 29, 30, 31, 32] (by decide +kernel) (by decide +kernel)
set_option maxRecDepth 20000 in
theorem gX6_feature_X6_byDistance : GoodIn wsX6_feature (va_wsS RX6 108 yX6_byDistance wsX6_byDistance) := goodIn_app (goodIn_of _ (by decide +kernel)) ggX6_feature_X6_byDistance
set_option maxRecDepth 20000 in
theorem ggX6_feature_X2_byKinds : GoodIn wsX6_feature wsX2_byKinds := goodIn_r _ [36, 37, 38, 39, 17, 40, 41, 42, 4, 43, 51, 52, 53, 54] (by decide +kernel) (by decide +kernel)
set_option maxRecDepth 20000 in
theorem gX6_feature_X2_byKinds : GoodIn wsX6_feature (wsV RX6 112 RX2 yX2_byKinds wsX2_byKinds) := goodIn_app (goodIn_of _ (by decide +kernel)) ggX6_feature_X2_byKinds
theorem dX6_feature_0 : decode cX6_feature 0 = .ok (.aload_n 0, 1) := by decide +kernel
theorem dX6_feature_1 : decode cX6_feature 1 = .ok (.iload_n 1, 1) := by decide +kernel
theorem dX6_feature_2 : decode cX6_feature 2 = .ok (.invokevirtual 62, 3) := by decide +kernel
theorem dX6_feature_5 : decode cX6_feature 5 = .ok (.astore 5, 2) := by decide +kernel
theorem dX6_feature_7 : decode cX6_feature 7 = .ok (.aload 5, 2) := by decide +kernel
theorem dX6_feature_9 : decode cX6_feature 9 = .ok (.iload_n 2, 1) := by decide +kernel
theorem dX6_feature_10 : decode cX6_feature 10 = .ok (.iload_n 3, 1) := by decide +kernel
theorem dX6_feature_11 : decode cX6_feature 11 = .ok (.invokestatic 104, 3) := by decide +kernel
theorem dX6_feature_14 : decode cX6_feature 14 = .ok (.iload 4, 2) := by decide +kernel
theorem dX6_feature_16 : decode cX6_feature 16 = .ok (.ifCond .eq 11, 3) := by decide +kernel
theorem dX6_feature_19 : decode cX6_feature 19 = .ok (.iload_n 2, 1) := by decide +kernel
theorem dX6_feature_20 : decode cX6_feature 20 = .ok (.iload_n 3, 1) := by decide +kernel
theorem dX6_feature_21 : decode cX6_feature 21 = .ok (.invokestatic 108, 3) := by decide +kernel
theorem dX6_feature_24 : decode cX6_feature 24 = .ok (.goto 10, 3) := by decide +kernel
theorem dX6_feature_27 : decode cX6_feature 27 = .ok (.aload 5, 2) := by decide +kernel
theorem dX6_feature_29 : decode cX6_feature 29 = .ok (.iload_n 2, 1) := by decide +kernel
theorem dX6_feature_30 : decode cX6_feature 30 = .ok (.iload_n 3, 1) := by decide +kernel
theorem dX6_feature_31 : decode cX6_feature 31 = .ok (.invokevirtual 112, 3) := by decide +kernel
theorem dX6_feature_34 : decode cX6_feature 34 = .ok (.ireturn, 1) := by decide +kernel
set_option maxRecDepth 20000 in
theorem ggX6_score_X6_find : GoodIn wsX6_score wsX6_find := goodIn_ca (goodIn_r _ [6, 7, 8, 9, 57, 58, 59, 60, 61, 62, 63] (by decide +kernel) (by decide +kernel)) (goodIn_sub (fun _ h => List.mem_cons_of_mem _ (List.mem_append_left _ (List.mem_append_right _ h))) (by decide +kernel))
set_option maxRecDepth 20000 in
theorem gX6_score_X6_find : GoodIn wsX6_score (wsV RX6 62 RX6 yX6_find wsX6_find) := goodIn_app (goodIn_of _ (by decide +kernel)) ggX6_score_X6_find
set_option maxRecDepth 20000 in
theorem ggX6_score_X6_checkArc : GoodIn wsX6_score wsX6_checkArc := goodIn_ca (goodIn_ca (goodIn_r _ [12, 7, 8, 13, 14, 15, 16, 17, 18, 19, 20, 21, 22, 5, 23, 64, 65, 66, 67] (by decide +kernel) (by decide +kernel)) (goodIn_sub (fun _ h => List.mem_cons_of_mem _ (List.mem_append_left _ (List.mem_append_right _ h))) (by decide +kernel))) (goodIn_sub (fun _ h => List.mem_cons_of_mem _ (List.mem_append_right _ h)) (by decide +kernel))
set_option maxRecDepth 20000 in
theorem gX6_score_X6_checkArc : GoodIn wsX6_score (va_wsS RX6 104 yX6_checkArc wsX6_checkArc) := goodIn_app (goodIn_of _ (by decide +kernel)) ggX6_score_X6_checkArc
set_option maxRecDepth 20000 in
theorem ggX6_score_X5_ofArc : GoodIn wsX6_score wsX5_ofArc := goodIn_r _ [28, 29, 30, 31, 18, 32, 33, 34, 35, 36, 37, 38, 5, 39, 40, 41, 42, 27, 43, 44, 45, 46, 47, 48, 49, 50, 51, 52, 53, 54, 55, 56, 64, 65, 66, 67, 68, 69, 70, 71, 72, 73, 74, 75] (by decide +kernel) (by decide +kernel)
set_option maxRecDepth 20000 in
theorem gX6_score_X5_ofArc : GoodIn wsX6_score (wsV RX6 115 RX5 yX5_ofArc wsX5_ofArc) := goodIn_app (goodIn_of _ (by decide +kernel)) ggX6_score_X5_ofArc
theorem dX6_score_0 : decode cX6_score 0 = .ok (.aload_n 0, 1) := by decide +kernel
theorem dX6_score_1 : decode cX6_score 1 = .ok (.iload_n 1, 1) := by decide +kernel
theorem dX6_score_2 : decode cX6_score 2 = .ok (.invokevirtual 62, 3) := by decide +kernel
theorem dX6_score_5 : decode cX6_score 5 = .ok (.astore 4, 2) := by decide +kernel
theorem dX6_score_7 : decode cX6_score 7 = .ok (.aload 4, 2) := by decide +kernel
theorem dX6_score_9 : decode cX6_score 9 = .ok (.iload_n 2, 1) := by decide +kernel
theorem dX6_score_10 : decode cX6_score 10 = .ok (.iload_n 3, 1) := by decide +kernel
theorem dX6_score_11 : decode cX6_score 11 = .ok (.invokestatic 104, 3) := by decide +kernel
theorem dX6_score_14 : decode cX6_score 14 = .ok (.aload_n 0, 1) := by decide +kernel
theorem dX6_score_15 : decode cX6_score 15 = .ok (.getfield 22, 3) := by decide +kernel
theorem dX6_score_18 : decode cX6_score 18 = .ok (.aload 4, 2) := by decide +kernel
theorem dX6_score_20 : decode cX6_score 20 = .ok (.iload_n 2, 1) := by decide +kernel
theorem dX6_score_21 : decode cX6_score 21 = .ok (.iload_n 3, 1) := by decide +kernel
theorem dX6_score_22 : decode cX6_score 22 = .ok (.invokevirtual 115, 3) := by decide +kernel
theorem dX6_score_25 : decode cX6_score 25 = .ok (.ireturn, 1) := by decide +kernel
set_option maxRecDepth 20000 in
theorem ggX6_mark_X6_find : GoodIn wsX6_mark wsX6_find := goodIn_ca (goodIn_r _ [9, 10, 11, 12, 40, 41, 42, 43, 44, 45, 46] (by decide +kernel) (by decide +kernel)) (goodIn_sub (fun _ h => List.mem_cons_of_mem _ (List.mem_append_right _ h)) (by decide +kernel))
set_option maxRecDepth 20000 in
theorem gX6_mark_X6_find : GoodIn wsX6_mark (wsV RX6 62 RX6 yX6_find wsX6_find) := goodIn_app (goodIn_of _ (by decide +kernel)) ggX6_mark_X6_find
set_option maxRecDepth 20000 in
theorem ggX6_mark_X6_checkArc : GoodIn wsX6_mark wsX6_checkArc := goodIn_ca (goodIn_ca (goodIn_r _ [15, 10, 11, 1, 2, 16, 17, 18, 19, 20, 21, 22, 23, 8, 24, 47, 48, 49, 50] (by decide +kernel) (by decide +kernel)) (goodIn_sub (fun _ h => List.mem_cons_of_mem _ (List.mem_append_right _ h)) (by decide +kernel))) (goodIn_sub (fun _ h => List.mem_cons_of_mem _ (List.mem_append_left _ (List.mem_append_left _ (List.mem_append_right _ h)))) (by decide +kernel))
set_option maxRecDepth 20000 in
theorem gX6_mark_X6_checkArc : GoodIn wsX6_mark (va_wsS RX6 104 yX6_checkArc wsX6_checkArc) := goodIn_app (goodIn_of _ (by decide +kernel)) ggX6_mark_X6_checkArc
set_option maxRecDepth 20000 in
theorem ggX6_mark_X2_forcedHead : GoodIn wsX6_mark wsX2_forcedHead := goodIn_r _ [28, 21, 29, 30, 31, 19, 32, 33, 34, 8, 35, 47, 48, 49, 50] (by decide +kernel) (by decide +kernel)
set_option maxRecDepth 20000 in
theorem gX6_mark_X2_forcedHead : GoodIn wsX6_mark (wsV RX6 121 RX2 yX2_forcedHead wsX2_forcedHead) := goodIn_app (goodIn_of _ (by decide +kernel)) ggX6_mark_X2_forcedHead
set_option maxRecDepth 20000 in
theorem ggX6_mark_X2_changeMark : GoodIn wsX6_mark wsX2_changeMark := goodIn_r _ [39, 33, 29, 30, 31, 19, 32, 34, 8, 35, 47, 48, 49, 50] (by decide +kernel) (by decide +kernel)
set_option maxRecDepth 20000 in
theorem gX6_mark_X2_changeMark : GoodIn wsX6_mark (wsV RX6 126 RX2 yX2_changeMark wsX2_changeMark) := goodIn_app (goodIn_of _ (by decide +kernel)) ggX6_mark_X2_changeMark
theorem dX6_mark_0 : decode cX6_mark 0 = .ok (.aload_n 0, 1) := by decide +kernel
theorem dX6_mark_1 : decode cX6_mark 1 = .ok (.iload_n 1, 1) := by decide +kernel
theorem dX6_mark_2 : decode cX6_mark 2 = .ok (.invokevirtual 62, 3) := by decide +kernel
theorem dX6_mark_5 : decode cX6_mark 5 = .ok (.astore 5, 2) := by decide +kernel
theorem dX6_mark_7 : decode cX6_mark 7 = .ok (.aload 5, 2) := by decide +kernel
theorem dX6_mark_9 : decode cX6_mark 9 = .ok (.iload_n 2, 1) := by decide +kernel
theorem dX6_mark_10 : decode cX6_mark 10 = .ok (.iload_n 3, 1) := by decide +kernel
theorem dX6_mark_11 : decode cX6_mark 11 = .ok (.invokestatic 104, 3) := by decide +kernel
theorem dX6_mark_14 : decode cX6_mark 14 = .ok (.iload 4, 2) := by decide +kernel
theorem dX6_mark_16 : decode cX6_mark 16 = .ok (.ifCond .eq 25, 3) := by decide +kernel
theorem dX6_mark_19 : decode cX6_mark 19 = .ok (.iload 4, 2) := by decide +kernel
theorem dX6_mark_21 : decode cX6_mark 21 = .ok (.iconst 1, 1) := by decide +kernel
theorem dX6_mark_22 : decode cX6_mark 22 = .ok (.if_icmp .eq 19, 3) := by decide +kernel
theorem dX6_mark_25 : decode cX6_mark 25 = .ok (.iload 4, 2) := by decide +kernel
theorem dX6_mark_27 : decode cX6_mark 27 = .ok (.iconst 2, 1) := by decide +kernel
theorem dX6_mark_28 : decode cX6_mark 28 = .ok (.if_icmp .eq 13, 3) := by decide +kernel
theorem dX6_mark_31 : decode cX6_mark 31 = .ok (.new 66, 3) := by decide +kernel
theorem dX6_mark_34 : decode cX6_mark 34 = .ok (.dup, 1) := by decide +kernel
theorem dX6_mark_35 : decode cX6_mark 35 = .ok (.ldc 119, 2) := by decide +kernel
theorem dX6_mark_37 : decode cX6_mark 37 = .ok (.invokespecial 70, 3) := by decide +kernel
theorem dX6_mark_40 : decode cX6_mark 40 = .ok (.athrow, 1) := by decide +kernel
theorem dX6_mark_41 : decode cX6_mark 41 = .ok (.aload 5, 2) := by decide +kernel
theorem dX6_mark_43 : decode cX6_mark 43 = .ok (.iload_n 3, 1) := by decide +kernel
theorem dX6_mark_44 : decode cX6_mark 44 = .ok (.invokevirtual 121, 3) := by decide +kernel
theorem dX6_mark_47 : decode cX6_mark 47 = .ok (.istore 6, 2) := by decide +kernel
theorem dX6_mark_49 : decode cX6_mark 49 = .ok (.iload 4, 2) := by decide +kernel
theorem dX6_mark_51 : decode cX6_mark 51 = .ok (.iconst 1, 1) := by decide +kernel
theorem dX6_mark_52 : decode cX6_mark 52 = .ok (.if_icmp .ne 25, 3) := by decide +kernel
theorem dX6_mark_55 : decode cX6_mark 55 = .ok (.iload 6, 2) := by decide +kernel
theorem dX6_mark_57 : decode cX6_mark 57 = .ok (.iconst (-1), 1) := by decide +kernel
theorem dX6_mark_58 : decode cX6_mark 58 = .ok (.if_icmp .eq 19, 3) := by decide +kernel
theorem dX6_mark_61 : decode cX6_mark 61 = .ok (.iload 6, 2) := by decide +kernel
theorem dX6_mark_63 : decode cX6_mark 63 = .ok (.iload_n 2, 1) := by decide +kernel
theorem dX6_mark_64 : decode cX6_mark 64 = .ok (.if_icmp .eq 13, 3) := by decide +kernel
theorem dX6_mark_67 : decode cX6_mark 67 = .ok (.new 54, 3) := by decide +kernel
theorem dX6_mark_70 : decode cX6_mark 70 = .ok (.dup, 1) := by decide +kernel
theorem dX6_mark_71 : decode cX6_mark 71 = .ok (.ldc 124, 2) := by decide +kernel
theorem dX6_mark_73 : decode cX6_mark 73 = .ok (.invokespecial 58, 3) := by decide +kernel
theorem dX6_mark_76 : decode cX6_mark 76 = .ok (.athrow, 1) := by decide +kernel
theorem dX6_mark_77 : decode cX6_mark 77 = .ok (.aload 5, 2) := by decide +kernel
theorem dX6_mark_79 : decode cX6_mark 79 = .ok (.iload_n 2, 1) := by decide +kernel
theorem dX6_mark_80 : decode cX6_mark 80 = .ok (.iload_n 3, 1) := by decide +kernel
theorem dX6_mark_81 : decode cX6_mark 81 = .ok (.iload 4, 2) := by decide +kernel
theorem dX6_mark_83 : decode cX6_mark 83 = .ok (.invokevirtual 126, 3) := by decide +kernel
theorem dX6_mark_86 : decode cX6_mark 86 = .ok (.ireturn, 1) := by decide +kernel
set_option maxRecDepth 20000 in
theorem ggX6_trees_X6_find : GoodIn wsX6_trees wsX6_find := goodIn_ca (goodIn_r _ [5, 6, 7, 8, 119, 120, 121, 122, 123, 124, 125] (by decide +kernel) (by decide +kernel)) (goodIn_sub (fun _ h => List.mem_cons_of_mem _ (List.mem_append_right _ h)) (by decide +kernel))
set_option maxRecDepth 20000 in
theorem gX6_trees_X6_find : GoodIn wsX6_trees (wsV RX6 62 RX6 yX6_find wsX6_find) := goodIn_app (goodIn_of _ (by decide +kernel)) ggX6_trees_X6_find
set_option maxRecDepth 20000 in
theorem ggX6_trees_X6_tryAll : GoodIn wsX6_trees wsX6_tryAll := goodIn_r _ [12, 13, 14, 15, 16, 17, 18, 19, 20, 21, 22, 23, 24, 25, 26, 27, 28, 29, 30, 31, 32, 33, 34, 35, 36, 37, 38, 39, 40, 41, 42, 43, 44, 4, 45, 46, 47, 48, 49, 50, 51, 52, 53, 54, 55, 56, 57, 58, 59, 60, 61, 62, 63, 64, 65, 66, 67, 68, 69, 70, 71, 72, 73, 74, 75, 76, 77, 78, 79, 80, 81, 82, 83, 84, 85, 86, 87, 88, 89, 90, 91, 92, 93, 94, 95, 96, 97, 98, 99, 100, 101, 102, 103, 104, 105, 106, 107, 108, 109, 110, 111, 112, 113, 114, 119, 120, 121, 122, 123, 124, 125, 126, 127, 128, 129, 130, 131, 132, 133, 134, 135, 136, 137, 138, 139, 140, 141, 142] (by decide +kernel) (by decide +kernel)
set_option maxRecDepth 20000 in
theorem gX6_trees_X6_tryAll : GoodIn wsX6_trees (wsV RX6 130 RX6 yX6_tryAll wsX6_tryAll) := goodIn_app (goodIn_of _ (by decide +kernel)) ggX6_trees_X6_tryAll
set_option maxRecDepth 20000 in
theorem ggX6_trees_X4_size : GoodIn wsX6_trees wsX4_size := goodIn_r _ [118, 83, 140, 141, 142] (by decide +kernel) (by decide +kernel)
set_option maxRecDepth 20000 in
theorem gX6_trees_X4_size : GoodIn wsX6_trees (wsV RX6 134 RX4 yX4_size wsX4_size) := goodIn_app (goodIn_of _ (by decide +kernel)) ggX6_trees_X4_size
theorem dX6_trees_0 : decode cX6_trees 0 = .ok (.aload_n 0, 1) := by decide +kernel
theorem dX6_trees_1 : decode cX6_trees 1 = .ok (.aload_n 0, 1) := by decide +kernel
theorem dX6_trees_2 : decode cX6_trees 2 = .ok (.iload_n 1, 1) := by decide +kernel
theorem dX6_trees_3 : decode cX6_trees 3 = .ok (.invokevirtual 62, 3) := by decide +kernel
theorem dX6_trees_6 : decode cX6_trees 6 = .ok (.iload_n 2, 1) := by decide +kernel
theorem dX6_trees_7 : decode cX6_trees 7 = .ok (.invokevirtual 130, 3) := by decide +kernel
theorem dX6_trees_10 : decode cX6_trees 10 = .ok (.invokevirtual 134, 3) := by decide +kernel
theorem dX6_trees_13 : decode cX6_trees 13 = .ok (.ireturn, 1) := by decide +kernel
set_option maxRecDepth 20000 in
theorem ggX6_best_X6_find : GoodIn wsX6_best wsX6_find := goodIn_ca (goodIn_r _ [5, 6, 7, 8, 178, 179, 180, 181, 182, 183, 184] (by decide +kernel) (by decide +kernel)) (goodIn_sub (fun _ h => List.mem_cons_of_mem _ (List.mem_append_left _ (List.mem_append_right _ h))) (by decide +kernel))
set_option maxRecDepth 20000 in
theorem gX6_best_X6_find : GoodIn wsX6_best (wsV RX6 62 RX6 yX6_find wsX6_find) := goodIn_app (goodIn_of _ (by decide +kernel)) ggX6_best_X6_find
set_option maxRecDepth 20000 in
theorem ggX6_best_X6_bestKey : GoodIn wsX6_best wsX6_bestKey := goodIn_ca (goodIn_r _ [12, 13, 14, 15, 16, 17, 18, 19, 20, 21, 22, 23, 24, 25, 26, 27, 28, 29, 30, 31, 32, 33, 34, 35, 36, 37, 38, 39, 40, 41, 42, 43, 44, 45, 4, 46, 47, 48, 49, 50, 51, 52, 53, 54, 55, 56, 57, 58, 59, 60, 61, 62, 63, 64, 65, 66, 67, 68, 69, 70, 71, 72, 73, 74, 75, 76, 77, 78, 79, 80, 81, 82, 83, 84, 85, 86, 87, 88, 89, 90, 91, 92, 93, 94, 95, 96, 97, 98, 99, 100, 101, 102, 103, 104, 105, 106, 107, 108, 109, 110, 111, 112, 113, 114, 115, 116, 117, 118, 119, 120, 121, 122, 123, 124, 125, 126, 127, 128, 129, 130, 131, 132, 133, 134, 135, 136, 137, 138, 139, 140, 141, 142, 143, 144, 145, 146, 147, 148, 149, 150, 151, 152, 153, 154, 155, 156, 157, 158, 159, 160, 161, 162, 163, 164, 165, 166, 178, 179, 180, 181, 182, 183, 184, 185, 186, 187, 188, 189, 190, 191, 192, 193, 194, 195, 196, 197, 198, 199, 200, 201, 202, 203, 204, 205, 206, 207] (by decide +kernel) (by decide +kernel)) (goodIn_sub (fun _ h => List.mem_cons_of_mem _ (List.mem_append_right _ h)) (by decide +kernel))
set_option maxRecDepth 20000 in
theorem gX6_best_X6_bestKey : GoodIn wsX6_best (wsV RX6 135 RX6 yX6_bestKey wsX6_bestKey) := goodIn_app (goodIn_of _ (by decide +kernel)) ggX6_best_X6_bestKey
set_option maxRecDepth 20000 in
theorem ggX6_best_X6_scoreIn : GoodIn wsX6_best wsX6_scoreIn := goodIn_r _ [169, 170, 171, 172, 4, 173, 174, 175, 176, 177] (by decide +kernel) (by decide +kernel)
set_option maxRecDepth 20000 in
theorem gX6_best_X6_scoreIn : GoodIn wsX6_best (va_wsS RX6 139 yX6_scoreIn wsX6_scoreIn) := goodIn_app (goodIn_of _ (by decide +kernel)) ggX6_best_X6_scoreIn
theorem dX6_best_0 : decode cX6_best 0 = .ok (.aload_n 0, 1) := by decide +kernel
theorem dX6_best_1 : decode cX6_best 1 = .ok (.aload_n 0, 1) := by decide +kernel
theorem dX6_best_2 : decode cX6_best 2 = .ok (.iload_n 1, 1) := by decide +kernel
theorem dX6_best_3 : decode cX6_best 3 = .ok (.invokevirtual 62, 3) := by decide +kernel
theorem dX6_best_6 : decode cX6_best 6 = .ok (.iload_n 2, 1) := by decide +kernel
theorem dX6_best_7 : decode cX6_best 7 = .ok (.invokevirtual 135, 3) := by decide +kernel
theorem dX6_best_10 : decode cX6_best 10 = .ok (.invokestatic 139, 3) := by decide +kernel
theorem dX6_best_13 : decode cX6_best 13 = .ok (.ireturn, 1) := by decide +kernel
set_option maxRecDepth 20000 in
theorem ggX6_bestByTrying_X6_find : GoodIn wsX6_bestByTrying wsX6_find := goodIn_ca (goodIn_r _ [5, 6, 7, 8, 139, 140, 141, 142, 143, 144, 145] (by decide +kernel) (by decide +kernel)) (goodIn_sub (fun _ h => List.mem_cons_of_mem _ (List.mem_append_left _ (List.mem_append_right _ h))) (by decide +kernel))
set_option maxRecDepth 20000 in
theorem gX6_bestByTrying_X6_find : GoodIn wsX6_bestByTrying (wsV RX6 62 RX6 yX6_find wsX6_find) := goodIn_app (goodIn_of _ (by decide +kernel)) ggX6_bestByTrying_X6_find
set_option maxRecDepth 20000 in
theorem ggX6_bestByTrying_X6_tryAll : GoodIn wsX6_bestByTrying wsX6_tryAll := goodIn_r _ [12, 13, 14, 15, 16, 17, 18, 19, 20, 21, 22, 23, 24, 25, 26, 27, 28, 29, 30, 31, 32, 33, 34, 35, 36, 37, 38, 39, 40, 41, 42, 43, 44, 4, 45, 46, 47, 48, 49, 50, 51, 52, 53, 54, 55, 56, 57, 58, 59, 60, 61, 62, 63, 64, 65, 66, 67, 68, 69, 70, 71, 72, 73, 74, 75, 76, 77, 78, 79, 80, 81, 82, 83, 84, 85, 86, 87, 88, 89, 90, 91, 92, 93, 94, 95, 96, 97, 98, 99, 100, 101, 102, 103, 104, 105, 106, 107, 108, 109, 110, 111, 112, 113, 114, 139, 140, 141, 142, 143, 144, 145, 146, 147, 148, 149, 150, 151, 152, 153, 154, 155, 156, 157, 158, 159, 160, 161, 162] (by decide +kernel) (by decide +kernel)
set_option maxRecDepth 20000 in
theorem gX6_bestByTrying_X6_tryAll : GoodIn wsX6_bestByTrying (wsV RX6 130 RX6 yX6_tryAll wsX6_tryAll) := goodIn_app (goodIn_of _ (by decide +kernel)) ggX6_bestByTrying_X6_tryAll
set_option maxRecDepth 20000 in
theorem ggX6_bestByTrying_X4_greatest : GoodIn wsX6_bestByTrying wsX4_greatest := goodIn_r _ [118, 87, 83, 97, 119, 120, 23, 121, 160, 161, 162] (by decide +kernel) (by decide +kernel)
set_option maxRecDepth 20000 in
theorem gX6_bestByTrying_X4_greatest : GoodIn wsX6_bestByTrying (wsV RX6 143 RX4 yX4_greatest wsX4_greatest) := goodIn_app (goodIn_of _ (by decide +kernel)) ggX6_bestByTrying_X4_greatest
set_option maxRecDepth 20000 in
theorem ggX6_bestByTrying_X6_checkTree : GoodIn wsX6_bestByTrying wsX6_checkTree := goodIn_ca (goodIn_r _ [124, 125, 126, 127] (by decide +kernel) (by decide +kernel)) (goodIn_sub (fun _ h => List.mem_cons_of_mem _ (List.mem_append_right _ h)) (by decide +kernel))
set_option maxRecDepth 20000 in
theorem gX6_bestByTrying_X6_checkTree : GoodIn wsX6_bestByTrying (va_wsS RX6 147 yX6_checkTree wsX6_checkTree) := goodIn_app (goodIn_of _ (by decide +kernel)) ggX6_bestByTrying_X6_checkTree
set_option maxRecDepth 20000 in
theorem ggX6_bestByTrying_X6_scoreIn : GoodIn wsX6_bestByTrying wsX6_scoreIn := goodIn_r _ [130, 131, 132, 133, 4, 134, 135, 136, 137, 138] (by decide +kernel) (by decide +kernel)
set_option maxRecDepth 20000 in
theorem gX6_bestByTrying_X6_scoreIn : GoodIn wsX6_bestByTrying (va_wsS RX6 139 yX6_scoreIn wsX6_scoreIn) := goodIn_app (goodIn_of _ (by decide +kernel)) ggX6_bestByTrying_X6_scoreIn
theorem dX6_bestByTrying_0 : decode cX6_bestByTrying 0 = .ok (.aload_n 0, 1) := by decide +kernel
theorem dX6_bestByTrying_1 : decode cX6_bestByTrying 1 = .ok (.aload_n 0, 1) := by decide +kernel
theorem dX6_bestByTrying_2 : decode cX6_bestByTrying 2 = .ok (.iload_n 1, 1) := by decide +kernel
theorem dX6_bestByTrying_3 : decode cX6_bestByTrying 3 = .ok (.invokevirtual 62, 3) := by decide +kernel
theorem dX6_bestByTrying_6 : decode cX6_bestByTrying 6 = .ok (.iload_n 2, 1) := by decide +kernel
theorem dX6_bestByTrying_7 : decode cX6_bestByTrying 7 = .ok (.invokevirtual 130, 3) := by decide +kernel
theorem dX6_bestByTrying_10 : decode cX6_bestByTrying 10 = .ok (.invokevirtual 143, 3) := by decide +kernel
theorem dX6_bestByTrying_13 : decode cX6_bestByTrying 13 = .ok (.lstore_n 3, 1) := by decide +kernel
theorem dX6_bestByTrying_14 : decode cX6_bestByTrying 14 = .ok (.lload_n 3, 1) := by decide +kernel
theorem dX6_bestByTrying_15 : decode cX6_bestByTrying 15 = .ok (.invokestatic 147, 3) := by decide +kernel
theorem dX6_bestByTrying_18 : decode cX6_bestByTrying 18 = .ok (.lload_n 3, 1) := by decide +kernel
theorem dX6_bestByTrying_19 : decode cX6_bestByTrying 19 = .ok (.invokestatic 139, 3) := by decide +kernel
theorem dX6_bestByTrying_22 : decode cX6_bestByTrying 22 = .ok (.ireturn, 1) := by decide +kernel
set_option maxRecDepth 20000 in
theorem ggX6_head_X6_find : GoodIn wsX6_head wsX6_find := goodIn_ca (goodIn_r _ [5, 6, 7, 8, 183, 184, 185, 186, 187, 188, 189] (by decide +kernel) (by decide +kernel)) (goodIn_sub (fun _ h => List.mem_cons_of_mem _ (List.mem_append_left _ (List.mem_append_right _ h))) (by decide +kernel))
set_option maxRecDepth 20000 in
theorem gX6_head_X6_find : GoodIn wsX6_head (wsV RX6 62 RX6 yX6_find wsX6_find) := goodIn_app (goodIn_of _ (by decide +kernel)) ggX6_head_X6_find
set_option maxRecDepth 20000 in
theorem ggX6_head_X6_checkWord : GoodIn wsX6_head wsX6_checkWord := goodIn_ca (goodIn_r _ [11, 6, 7, 12, 13, 14, 15, 16, 17, 190, 191, 192, 193] (by decide +kernel) (by decide +kernel)) (goodIn_sub (fun _ h => List.mem_cons_of_mem _ (List.mem_append_left _ (List.mem_append_right _ h))) (by decide +kernel))
set_option maxRecDepth 20000 in
theorem gX6_head_X6_checkWord : GoodIn wsX6_head (va_wsS RX6 81 yX6_checkWord wsX6_checkWord) := goodIn_app (goodIn_of _ (by decide +kernel)) ggX6_head_X6_checkWord
set_option maxRecDepth 20000 in
theorem ggX6_head_X6_bestKey : GoodIn wsX6_head wsX6_bestKey := goodIn_ca (goodIn_r _ [21, 22, 23, 24, 25, 26, 27, 28, 29, 30, 31, 32, 33, 34, 35, 36, 37, 38, 39, 13, 14, 15, 16, 17, 40, 41, 42, 43, 44, 45, 46, 47, 48, 49, 4, 50, 51, 52, 53, 54, 55, 56, 57, 58, 59, 60, 61, 62, 63, 64, 65, 66, 67, 68, 69, 70, 71, 72, 73, 74, 75, 76, 77, 78, 79, 80, 81, 82, 83, 84, 85, 86, 87, 88, 89, 90, 91, 92, 93, 94, 95, 96, 97, 98, 99, 100, 101, 102, 103, 104, 105, 106, 107, 108, 109, 110, 111, 112, 113, 114, 115, 116, 117, 118, 119, 120, 121, 122, 123, 124, 125, 126, 127, 128, 129, 130, 131, 132, 133, 134, 135, 136, 137, 138, 139, 140, 141, 142, 143, 144, 145, 146, 147, 148, 149, 150, 151, 152, 153, 154, 155, 156, 157, 158, 159, 160, 161, 162, 163, 164, 165, 166, 167, 168, 169, 170, 183, 184, 185, 186, 187, 188, 189, 194, 195, 190, 191, 192, 193, 196, 197, 198, 199, 200, 201, 202, 203, 204, 205, 206, 207, 208, 209, 210, 211, 212] (by decide +kernel) (by decide +kernel)) (goodIn_sub (fun _ h => List.mem_cons_of_mem _ (List.mem_append_right _ h)) (by decide +kernel))
set_option maxRecDepth 20000 in
theorem gX6_head_X6_bestKey : GoodIn wsX6_head (wsV RX6 135 RX6 yX6_bestKey wsX6_bestKey) := goodIn_app (goodIn_of _ (by decide +kernel)) ggX6_head_X6_bestKey
set_option maxRecDepth 20000 in
theorem ggX6_head_X6_headIn : GoodIn wsX6_head wsX6_headIn := goodIn_r _ [173, 174, 175, 176, 4, 177, 178, 179, 180, 181, 182] (by decide +kernel) (by decide +kernel)
set_option maxRecDepth 20000 in
theorem gX6_head_X6_headIn : GoodIn wsX6_head (va_wsS RX6 151 yX6_headIn wsX6_headIn) := goodIn_app (goodIn_of _ (by decide +kernel)) ggX6_head_X6_headIn
theorem dX6_head_0 : decode cX6_head 0 = .ok (.aload_n 0, 1) := by decide +kernel
theorem dX6_head_1 : decode cX6_head 1 = .ok (.iload_n 1, 1) := by decide +kernel
theorem dX6_head_2 : decode cX6_head 2 = .ok (.invokevirtual 62, 3) := by decide +kernel
theorem dX6_head_5 : decode cX6_head 5 = .ok (.astore 4, 2) := by decide +kernel
theorem dX6_head_7 : decode cX6_head 7 = .ok (.aload 4, 2) := by decide +kernel
theorem dX6_head_9 : decode cX6_head 9 = .ok (.iload_n 3, 1) := by decide +kernel
theorem dX6_head_10 : decode cX6_head 10 = .ok (.invokestatic 81, 3) := by decide +kernel
theorem dX6_head_13 : decode cX6_head 13 = .ok (.aload_n 0, 1) := by decide +kernel
theorem dX6_head_14 : decode cX6_head 14 = .ok (.aload 4, 2) := by decide +kernel
theorem dX6_head_16 : decode cX6_head 16 = .ok (.iload_n 2, 1) := by decide +kernel
theorem dX6_head_17 : decode cX6_head 17 = .ok (.invokevirtual 135, 3) := by decide +kernel
theorem dX6_head_20 : decode cX6_head 20 = .ok (.iload_n 3, 1) := by decide +kernel
theorem dX6_head_21 : decode cX6_head 21 = .ok (.invokestatic 151, 3) := by decide +kernel
theorem dX6_head_24 : decode cX6_head 24 = .ok (.ireturn, 1) := by decide +kernel
set_option maxRecDepth 20000 in
theorem ggX6_crossings_X6_find : GoodIn wsX6_crossings wsX6_find := goodIn_ca (goodIn_r _ [5, 6, 7, 8, 186, 187, 188, 189, 190, 191, 192] (by decide +kernel) (by decide +kernel)) (goodIn_sub (fun _ h => List.mem_cons_of_mem _ (List.mem_append_left _ (List.mem_append_right _ h))) (by decide +kernel))
set_option maxRecDepth 20000 in
theorem gX6_crossings_X6_find : GoodIn wsX6_crossings (wsV RX6 62 RX6 yX6_find wsX6_find) := goodIn_app (goodIn_of _ (by decide +kernel)) ggX6_crossings_X6_find
set_option maxRecDepth 20000 in
theorem ggX6_crossings_X6_bestKey : GoodIn wsX6_crossings wsX6_bestKey := goodIn_ca (goodIn_r _ [12, 13, 14, 15, 16, 17, 18, 19, 20, 21, 22, 23, 24, 25, 26, 27, 28, 29, 30, 31, 32, 33, 34, 35, 36, 37, 38, 39, 40, 41, 42, 43, 44, 45, 4, 46, 47, 48, 49, 50, 51, 52, 53, 54, 55, 56, 57, 58, 59, 60, 61, 62, 63, 64, 65, 66, 67, 68, 69, 70, 71, 72, 73, 74, 75, 76, 77, 78, 79, 80, 81, 82, 83, 84, 85, 86, 87, 88, 89, 90, 91, 92, 93, 94, 95, 96, 97, 98, 99, 100, 101, 102, 103, 104, 105, 106, 107, 108, 109, 110, 111, 112, 113, 114, 115, 116, 117, 118, 119, 120, 121, 122, 123, 124, 125, 126, 127, 128, 129, 130, 131, 132, 133, 134, 135, 136, 137, 138, 139, 140, 141, 142, 143, 144, 145, 146, 147, 148, 149, 150, 151, 152, 153, 154, 155, 156, 157, 158, 159, 160, 161, 162, 163, 164, 165, 166, 186, 187, 188, 189, 190, 191, 192, 193, 194, 195, 196, 197, 198, 199, 200, 201, 202, 203, 204, 205, 206, 207, 208, 209, 210, 211, 212, 213, 214, 215] (by decide +kernel) (by decide +kernel)) (goodIn_sub (fun _ h => List.mem_cons_of_mem _ (List.mem_append_right _ h)) (by decide +kernel))
set_option maxRecDepth 20000 in
theorem gX6_crossings_X6_bestKey : GoodIn wsX6_crossings (wsV RX6 135 RX6 yX6_bestKey wsX6_bestKey) := goodIn_app (goodIn_of _ (by decide +kernel)) ggX6_crossings_X6_bestKey
set_option maxRecDepth 20000 in
theorem ggX6_crossings_X2_size : GoodIn wsX6_crossings wsX2_size := goodIn_r _ [34, 35, 195, 196, 197, 198] (by decide +kernel) (by decide +kernel)
set_option maxRecDepth 20000 in
theorem gX6_crossings_X2_size : GoodIn wsX6_crossings (wsV RX6 71 RX2 yX2_size wsX2_size) := goodIn_app (goodIn_of _ (by decide +kernel)) ggX6_crossings_X2_size
set_option maxRecDepth 20000 in
theorem ggX6_crossings_X6_headIn : GoodIn wsX6_crossings wsX6_headIn := goodIn_r _ [170, 171, 172, 173, 4, 174, 175, 176, 177, 178, 179] (by decide +kernel) (by decide +kernel)
set_option maxRecDepth 20000 in
theorem gX6_crossings_X6_headIn : GoodIn wsX6_crossings (va_wsS RX6 151 yX6_headIn wsX6_headIn) := goodIn_app (goodIn_of _ (by decide +kernel)) ggX6_crossings_X6_headIn
set_option maxRecDepth 20000 in
theorem ggX6_crossings_X6_doCross : GoodIn wsX6_crossings wsX6_doCross := goodIn_r _ [182, 78, 23, 24, 25, 183, 184, 185] (by decide +kernel) (by decide +kernel)
set_option maxRecDepth 20000 in
theorem gX6_crossings_X6_doCross : GoodIn wsX6_crossings (va_wsS RX6 155 yX6_doCross wsX6_doCross) := goodIn_app (goodIn_of _ (by decide +kernel)) ggX6_crossings_X6_doCross
theorem dX6_crossings_0 : decode cX6_crossings 0 = .ok (.aload_n 0, 1) := by decide +kernel
theorem dX6_crossings_1 : decode cX6_crossings 1 = .ok (.iload_n 1, 1) := by decide +kernel
theorem dX6_crossings_2 : decode cX6_crossings 2 = .ok (.invokevirtual 62, 3) := by decide +kernel
theorem dX6_crossings_5 : decode cX6_crossings 5 = .ok (.astore_n 2, 1) := by decide +kernel
theorem dX6_crossings_6 : decode cX6_crossings 6 = .ok (.aload_n 0, 1) := by decide +kernel
theorem dX6_crossings_7 : decode cX6_crossings 7 = .ok (.aload_n 2, 1) := by decide +kernel
theorem dX6_crossings_8 : decode cX6_crossings 8 = .ok (.iconst 1, 1) := by decide +kernel
theorem dX6_crossings_9 : decode cX6_crossings 9 = .ok (.invokevirtual 135, 3) := by decide +kernel
theorem dX6_crossings_12 : decode cX6_crossings 12 = .ok (.lstore_n 3, 1) := by decide +kernel
theorem dX6_crossings_13 : decode cX6_crossings 13 = .ok (.iconst 0, 1) := by decide +kernel
theorem dX6_crossings_14 : decode cX6_crossings 14 = .ok (.istore 5, 2) := by decide +kernel
theorem dX6_crossings_16 : decode cX6_crossings 16 = .ok (.iconst 2, 1) := by decide +kernel
theorem dX6_crossings_17 : decode cX6_crossings 17 = .ok (.istore 6, 2) := by decide +kernel
theorem dX6_crossings_19 : decode cX6_crossings 19 = .ok (.iload 6, 2) := by decide +kernel
theorem dX6_crossings_21 : decode cX6_crossings 21 = .ok (.aload_n 2, 1) := by decide +kernel
theorem dX6_crossings_22 : decode cX6_crossings 22 = .ok (.invokevirtual 71, 3) := by decide +kernel
theorem dX6_crossings_25 : decode cX6_crossings 25 = .ok (.if_icmp .gt 50, 3) := by decide +kernel
theorem dX6_crossings_28 : decode cX6_crossings 28 = .ok (.iconst 1, 1) := by decide +kernel
theorem dX6_crossings_29 : decode cX6_crossings 29 = .ok (.istore 7, 2) := by decide +kernel
theorem dX6_crossings_31 : decode cX6_crossings 31 = .ok (.iload 7, 2) := by decide +kernel
theorem dX6_crossings_33 : decode cX6_crossings 33 = .ok (.iload 6, 2) := by decide +kernel
theorem dX6_crossings_35 : decode cX6_crossings 35 = .ok (.if_icmp .ge 34, 3) := by decide +kernel
theorem dX6_crossings_38 : decode cX6_crossings 38 = .ok (.lload_n 3, 1) := by decide +kernel
theorem dX6_crossings_39 : decode cX6_crossings 39 = .ok (.iload 6, 2) := by decide +kernel
theorem dX6_crossings_41 : decode cX6_crossings 41 = .ok (.invokestatic 151, 3) := by decide +kernel
theorem dX6_crossings_44 : decode cX6_crossings 44 = .ok (.iload 6, 2) := by decide +kernel
theorem dX6_crossings_46 : decode cX6_crossings 46 = .ok (.lload_n 3, 1) := by decide +kernel
theorem dX6_crossings_47 : decode cX6_crossings 47 = .ok (.iload 7, 2) := by decide +kernel
theorem dX6_crossings_49 : decode cX6_crossings 49 = .ok (.invokestatic 151, 3) := by decide +kernel
theorem dX6_crossings_52 : decode cX6_crossings 52 = .ok (.iload 7, 2) := by decide +kernel
theorem dX6_crossings_54 : decode cX6_crossings 54 = .ok (.invokestatic 155, 3) := by decide +kernel
theorem dX6_crossings_57 : decode cX6_crossings 57 = .ok (.ifCond .eq 6, 3) := by decide +kernel
theorem dX6_crossings_60 : decode cX6_crossings 60 = .ok (.iinc 5 1, 3) := by decide +kernel
theorem dX6_crossings_63 : decode cX6_crossings 63 = .ok (.iinc 7 1, 3) := by decide +kernel
theorem dX6_crossings_66 : decode cX6_crossings 66 = .ok (.goto (-35), 3) := by decide +kernel
theorem dX6_crossings_69 : decode cX6_crossings 69 = .ok (.iinc 6 1, 3) := by decide +kernel
theorem dX6_crossings_72 : decode cX6_crossings 72 = .ok (.goto (-53), 3) := by decide +kernel
theorem dX6_crossings_75 : decode cX6_crossings 75 = .ok (.iload 5, 2) := by decide +kernel
theorem dX6_crossings_77 : decode cX6_crossings 77 = .ok (.ireturn, 1) := by decide +kernel
set_option maxRecDepth 20000 in
theorem ggX6_ranked_X6_find : GoodIn wsX6_ranked wsX6_find := goodIn_ca (goodIn_r _ [5, 6, 7, 8, 157, 158, 159, 160, 161, 162, 163] (by decide +kernel) (by decide +kernel)) (goodIn_sub (fun _ h => List.mem_cons_of_mem _ (List.mem_append_right _ h)) (by decide +kernel))
set_option maxRecDepth 20000 in
theorem gX6_ranked_X6_find : GoodIn wsX6_ranked (wsV RX6 62 RX6 yX6_find wsX6_find) := goodIn_app (goodIn_of _ (by decide +kernel)) ggX6_ranked_X6_find
set_option maxRecDepth 20000 in
theorem ggX6_ranked_X6_rankedKey : GoodIn wsX6_ranked wsX6_rankedKey := goodIn_ca (goodIn_r _ [12, 6, 7, 13, 14, 15, 4, 16, 17, 18, 19, 20, 21, 22, 23, 24, 25, 26, 27, 28, 29, 30, 31, 32, 33, 34, 35, 36, 37, 38, 39, 40, 41, 42, 43, 44, 45, 46, 47, 48, 49, 50, 51, 52, 53, 54, 55, 56, 57, 58, 59, 60, 61, 62, 63, 64, 65, 66, 67, 68, 69, 70, 71, 72, 73, 74, 75, 76, 77, 78, 79, 80, 81, 82, 83, 84, 85, 86, 87, 88, 89, 90, 91, 92, 93, 94, 95, 96, 97, 98, 99, 100, 101, 102, 103, 104, 105, 106, 107, 108, 109, 110, 111, 112, 113, 114, 115, 116, 117, 118, 119, 120, 121, 122, 123, 124, 125, 126, 127, 128, 129, 130, 131, 132, 133, 134, 135, 136, 137, 138, 139, 140, 141, 142, 143, 144, 145, 157, 158, 159, 160, 161, 162, 163, 164, 165, 166, 167, 168, 169, 170, 171, 172, 173, 174, 175, 176, 177, 178, 179, 180] (by decide +kernel) (by decide +kernel)) (goodIn_sub (fun _ h => List.mem_cons_of_mem _ (List.mem_append_right _ h)) (by decide +kernel))
set_option maxRecDepth 20000 in
theorem gX6_ranked_X6_rankedKey : GoodIn wsX6_ranked (wsV RX6 159 RX6 yX6_rankedKey wsX6_rankedKey) := goodIn_app (goodIn_of _ (by decide +kernel)) ggX6_ranked_X6_rankedKey
set_option maxRecDepth 20000 in
theorem ggX6_ranked_X6_scoreIn : GoodIn wsX6_ranked wsX6_scoreIn := goodIn_r _ [148, 149, 150, 151, 4, 152, 153, 154, 155, 156] (by decide +kernel) (by decide +kernel)
set_option maxRecDepth 20000 in
theorem gX6_ranked_X6_scoreIn : GoodIn wsX6_ranked (va_wsS RX6 139 yX6_scoreIn wsX6_scoreIn) := goodIn_app (goodIn_of _ (by decide +kernel)) ggX6_ranked_X6_scoreIn
theorem dX6_ranked_0 : decode cX6_ranked 0 = .ok (.aload_n 0, 1) := by decide +kernel
theorem dX6_ranked_1 : decode cX6_ranked 1 = .ok (.aload_n 0, 1) := by decide +kernel
theorem dX6_ranked_2 : decode cX6_ranked 2 = .ok (.iload_n 1, 1) := by decide +kernel
theorem dX6_ranked_3 : decode cX6_ranked 3 = .ok (.invokevirtual 62, 3) := by decide +kernel
theorem dX6_ranked_6 : decode cX6_ranked 6 = .ok (.iload_n 2, 1) := by decide +kernel
theorem dX6_ranked_7 : decode cX6_ranked 7 = .ok (.iload_n 3, 1) := by decide +kernel
theorem dX6_ranked_8 : decode cX6_ranked 8 = .ok (.invokevirtual 159, 3) := by decide +kernel
theorem dX6_ranked_11 : decode cX6_ranked 11 = .ok (.invokestatic 139, 3) := by decide +kernel
theorem dX6_ranked_14 : decode cX6_ranked 14 = .ok (.ireturn, 1) := by decide +kernel
set_option maxRecDepth 20000 in
theorem ggX6_rankedHead_X6_find : GoodIn wsX6_rankedHead wsX6_find := goodIn_ca (goodIn_r _ [5, 6, 7, 8, 162, 163, 164, 165, 166, 167, 168] (by decide +kernel) (by decide +kernel)) (goodIn_sub (fun _ h => List.mem_cons_of_mem _ (List.mem_append_right _ h)) (by decide +kernel))
set_option maxRecDepth 20000 in
theorem gX6_rankedHead_X6_find : GoodIn wsX6_rankedHead (wsV RX6 62 RX6 yX6_find wsX6_find) := goodIn_app (goodIn_of _ (by decide +kernel)) ggX6_rankedHead_X6_find
set_option maxRecDepth 20000 in
theorem ggX6_rankedHead_X6_checkWord : GoodIn wsX6_rankedHead wsX6_checkWord := goodIn_ca (goodIn_r _ [11, 6, 7, 12, 13, 14, 15, 16, 17, 169, 170, 171, 172] (by decide +kernel) (by decide +kernel)) (goodIn_sub (fun _ h => List.mem_cons_of_mem _ (List.mem_append_right _ h)) (by decide +kernel))
set_option maxRecDepth 20000 in
theorem gX6_rankedHead_X6_checkWord : GoodIn wsX6_rankedHead (va_wsS RX6 81 yX6_checkWord wsX6_checkWord) := goodIn_app (goodIn_of _ (by decide +kernel)) ggX6_rankedHead_X6_checkWord
set_option maxRecDepth 20000 in
theorem ggX6_rankedHead_X6_rankedKey : GoodIn wsX6_rankedHead wsX6_rankedKey := goodIn_ca (goodIn_r _ [21, 6, 7, 22, 23, 24, 4, 25, 26, 27, 28, 29, 30, 31, 32, 33, 34, 35, 36, 37, 38, 39, 40, 41, 42, 13, 14, 15, 16, 17, 43, 44, 45, 46, 47, 48, 49, 50, 51, 52, 53, 54, 55, 56, 57, 58, 59, 60, 61, 62, 63, 64, 65, 66, 67, 68, 69, 70, 71, 72, 73, 74, 75, 76, 77, 78, 79, 80, 81, 82, 83, 84, 85, 86, 87, 88, 89, 90, 91, 92, 93, 94, 95, 96, 97, 98, 99, 100, 101, 102, 103, 104, 105, 106, 107, 108, 109, 110, 111, 112, 113, 114, 115, 116, 117, 118, 119, 120, 121, 122, 123, 124, 125, 126, 127, 128, 129, 130, 131, 132, 133, 134, 135, 136, 137, 138, 139, 140, 141, 142, 143, 144, 145, 146, 147, 148, 149, 162, 163, 164, 165, 166, 167, 168, 173, 174, 169, 170, 171, 172, 175, 176, 177, 178, 179, 180, 181, 182, 183, 184, 185] (by decide +kernel) (by decide +kernel)) (goodIn_sub (fun _ h => List.mem_cons_of_mem _ (List.mem_append_right _ h)) (by decide +kernel))
set_option maxRecDepth 20000 in
theorem gX6_rankedHead_X6_rankedKey : GoodIn wsX6_rankedHead (wsV RX6 159 RX6 yX6_rankedKey wsX6_rankedKey) := goodIn_app (goodIn_of _ (by decide +kernel)) ggX6_rankedHead_X6_rankedKey
set_option maxRecDepth 20000 in
theorem ggX6_rankedHead_X6_headIn : GoodIn wsX6_rankedHead wsX6_headIn := goodIn_r _ [152, 153, 154, 155, 4, 156, 157, 158, 159, 160, 161] (by decide +kernel) (by decide +kernel)
set_option maxRecDepth 20000 in
theorem gX6_rankedHead_X6_headIn : GoodIn wsX6_rankedHead (va_wsS RX6 151 yX6_headIn wsX6_headIn) := goodIn_app (goodIn_of _ (by decide +kernel)) ggX6_rankedHead_X6_headIn
theorem dX6_rankedHead_0 : decode cX6_rankedHead 0 = .ok (.aload_n 0, 1) := by decide +kernel
theorem dX6_rankedHead_1 : decode cX6_rankedHead 1 = .ok (.iload_n 1, 1) := by decide +kernel
theorem dX6_rankedHead_2 : decode cX6_rankedHead 2 = .ok (.invokevirtual 62, 3) := by decide +kernel
theorem dX6_rankedHead_5 : decode cX6_rankedHead 5 = .ok (.astore 5, 2) := by decide +kernel
theorem dX6_rankedHead_7 : decode cX6_rankedHead 7 = .ok (.aload 5, 2) := by decide +kernel
theorem dX6_rankedHead_9 : decode cX6_rankedHead 9 = .ok (.iload 4, 2) := by decide +kernel
theorem dX6_rankedHead_11 : decode cX6_rankedHead 11 = .ok (.invokestatic 81, 3) := by decide +kernel
theorem dX6_rankedHead_14 : decode cX6_rankedHead 14 = .ok (.aload_n 0, 1) := by decide +kernel
theorem dX6_rankedHead_15 : decode cX6_rankedHead 15 = .ok (.aload 5, 2) := by decide +kernel
theorem dX6_rankedHead_17 : decode cX6_rankedHead 17 = .ok (.iload_n 2, 1) := by decide +kernel
theorem dX6_rankedHead_18 : decode cX6_rankedHead 18 = .ok (.iload_n 3, 1) := by decide +kernel
theorem dX6_rankedHead_19 : decode cX6_rankedHead 19 = .ok (.invokevirtual 159, 3) := by decide +kernel
theorem dX6_rankedHead_22 : decode cX6_rankedHead 22 = .ok (.iload 4, 2) := by decide +kernel
theorem dX6_rankedHead_24 : decode cX6_rankedHead 24 = .ok (.invokestatic 151, 3) := by decide +kernel
theorem dX6_rankedHead_27 : decode cX6_rankedHead 27 = .ok (.ireturn, 1) := by decide +kernel
set_option maxRecDepth 20000 in
theorem ggX6_correct_X6_find : GoodIn wsX6_correct wsX6_find := goodIn_ca (goodIn_r _ [5, 6, 7, 8, 34, 35, 36, 37, 38, 39, 40] (by decide +kernel) (by decide +kernel)) (goodIn_sub (fun _ h => List.mem_cons_of_mem _ (List.mem_append_left _ (List.mem_append_right _ h))) (by decide +kernel))
set_option maxRecDepth 20000 in
theorem gX6_correct_X6_find : GoodIn wsX6_correct (wsV RX6 62 RX6 yX6_find wsX6_find) := goodIn_app (goodIn_of _ (by decide +kernel)) ggX6_correct_X6_find
set_option maxRecDepth 20000 in
theorem ggX6_correct_X6_checkArc : GoodIn wsX6_correct wsX6_checkArc := goodIn_ca (goodIn_ca (goodIn_r _ [11, 6, 7, 12, 13, 14, 15, 16, 17, 18, 19, 20, 21, 4, 22, 41, 42, 43, 44] (by decide +kernel) (by decide +kernel)) (goodIn_sub (fun _ h => List.mem_cons_of_mem _ (List.mem_append_left _ (List.mem_append_right _ h))) (by decide +kernel))) (goodIn_sub (fun _ h => List.mem_cons_of_mem _ (List.mem_append_right _ h)) (by decide +kernel))
set_option maxRecDepth 20000 in
theorem gX6_correct_X6_checkArc : GoodIn wsX6_correct (va_wsS RX6 104 yX6_checkArc wsX6_checkArc) := goodIn_app (goodIn_of _ (by decide +kernel)) ggX6_correct_X6_checkArc
set_option maxRecDepth 20000 in
theorem ggX6_correct_X2_changeRightHead : GoodIn wsX6_correct wsX2_changeRightHead := goodIn_r _ [26, 27, 28, 29, 30, 17, 31, 32, 4, 33, 41, 42, 43, 44] (by decide +kernel) (by decide +kernel)
set_option maxRecDepth 20000 in
theorem gX6_correct_X2_changeRightHead : GoodIn wsX6_correct (wsV RX6 163 RX2 yX2_changeRightHead wsX2_changeRightHead) := goodIn_app (goodIn_of _ (by decide +kernel)) ggX6_correct_X2_changeRightHead
theorem dX6_correct_0 : decode cX6_correct 0 = .ok (.aload_n 0, 1) := by decide +kernel
theorem dX6_correct_1 : decode cX6_correct 1 = .ok (.iload_n 1, 1) := by decide +kernel
theorem dX6_correct_2 : decode cX6_correct 2 = .ok (.invokevirtual 62, 3) := by decide +kernel
theorem dX6_correct_5 : decode cX6_correct 5 = .ok (.astore 4, 2) := by decide +kernel
theorem dX6_correct_7 : decode cX6_correct 7 = .ok (.aload 4, 2) := by decide +kernel
theorem dX6_correct_9 : decode cX6_correct 9 = .ok (.iload_n 2, 1) := by decide +kernel
theorem dX6_correct_10 : decode cX6_correct 10 = .ok (.iload_n 3, 1) := by decide +kernel
theorem dX6_correct_11 : decode cX6_correct 11 = .ok (.invokestatic 104, 3) := by decide +kernel
theorem dX6_correct_14 : decode cX6_correct 14 = .ok (.aload 4, 2) := by decide +kernel
theorem dX6_correct_16 : decode cX6_correct 16 = .ok (.iload_n 2, 1) := by decide +kernel
theorem dX6_correct_17 : decode cX6_correct 17 = .ok (.iload_n 3, 1) := by decide +kernel
theorem dX6_correct_18 : decode cX6_correct 18 = .ok (.invokevirtual 163, 3) := by decide +kernel
theorem dX6_correct_21 : decode cX6_correct 21 = .ok (.ireturn, 1) := by decide +kernel
set_option maxRecDepth 20000 in
theorem ggX6_matched_X6_find : GoodIn wsX6_matched wsX6_find := goodIn_ca (goodIn_r _ [5, 6, 7, 8, 185, 186, 187, 188, 189, 190, 191] (by decide +kernel) (by decide +kernel)) (goodIn_sub (fun _ h => List.mem_cons_of_mem _ (List.mem_append_left _ (List.mem_append_right _ h))) (by decide +kernel))
set_option maxRecDepth 20000 in
theorem gX6_matched_X6_find : GoodIn wsX6_matched (wsV RX6 62 RX6 yX6_find wsX6_find) := goodIn_app (goodIn_of _ (by decide +kernel)) ggX6_matched_X6_find
set_option maxRecDepth 20000 in
theorem ggX6_matched_X6_bestKey : GoodIn wsX6_matched wsX6_bestKey := goodIn_ca (goodIn_r _ [12, 13, 14, 15, 16, 17, 18, 19, 20, 21, 22, 23, 24, 25, 26, 27, 28, 29, 30, 31, 32, 33, 34, 35, 36, 37, 38, 39, 40, 41, 42, 43, 44, 45, 4, 46, 47, 48, 49, 50, 51, 52, 53, 54, 55, 56, 57, 58, 59, 60, 61, 62, 63, 64, 65, 66, 67, 68, 69, 70, 71, 72, 73, 74, 75, 76, 77, 78, 79, 80, 81, 82, 83, 84, 85, 86, 87, 88, 89, 90, 91, 92, 93, 94, 95, 96, 97, 98, 99, 100, 101, 102, 103, 104, 105, 106, 107, 108, 109, 110, 111, 112, 113, 114, 115, 116, 117, 118, 119, 120, 121, 122, 123, 124, 125, 126, 127, 128, 129, 130, 131, 132, 133, 134, 135, 136, 137, 138, 139, 140, 141, 142, 143, 144, 145, 146, 147, 148, 149, 150, 151, 152, 153, 154, 155, 156, 157, 158, 159, 160, 161, 162, 163, 164, 165, 166, 185, 186, 187, 188, 189, 190, 191, 192, 193, 194, 195, 196, 197, 198, 199, 200, 201, 202, 203, 204, 205, 206, 207, 208, 209, 210, 211, 212, 213, 214] (by decide +kernel) (by decide +kernel)) (goodIn_sub (fun _ h => List.mem_cons_of_mem _ (List.mem_append_right _ h)) (by decide +kernel))
set_option maxRecDepth 20000 in
theorem gX6_matched_X6_bestKey : GoodIn wsX6_matched (wsV RX6 135 RX6 yX6_bestKey wsX6_bestKey) := goodIn_app (goodIn_of _ (by decide +kernel)) ggX6_matched_X6_bestKey
set_option maxRecDepth 20000 in
theorem ggX6_matched_X2_size : GoodIn wsX6_matched wsX2_size := goodIn_r _ [34, 35, 194, 195, 196, 197] (by decide +kernel) (by decide +kernel)
set_option maxRecDepth 20000 in
theorem gX6_matched_X2_size : GoodIn wsX6_matched (wsV RX6 71 RX2 yX2_size wsX2_size) := goodIn_app (goodIn_of _ (by decide +kernel)) ggX6_matched_X2_size
set_option maxRecDepth 20000 in
theorem ggX6_matched_X2_rightHead : GoodIn wsX6_matched wsX2_rightHead := goodIn_r _ [171, 172, 45, 4, 46, 194, 195, 196, 197] (by decide +kernel) (by decide +kernel)
set_option maxRecDepth 20000 in
theorem gX6_matched_X2_rightHead : GoodIn wsX6_matched (wsV RX6 166 RX2 yX2_rightHead wsX2_rightHead) := goodIn_app (goodIn_of _ (by decide +kernel)) ggX6_matched_X2_rightHead
set_option maxRecDepth 20000 in
theorem ggX6_matched_X6_headIn : GoodIn wsX6_matched wsX6_headIn := goodIn_r _ [175, 176, 177, 178, 4, 179, 180, 181, 182, 183, 184] (by decide +kernel) (by decide +kernel)
set_option maxRecDepth 20000 in
theorem gX6_matched_X6_headIn : GoodIn wsX6_matched (va_wsS RX6 151 yX6_headIn wsX6_headIn) := goodIn_app (goodIn_of _ (by decide +kernel)) ggX6_matched_X6_headIn
theorem dX6_matched_0 : decode cX6_matched 0 = .ok (.aload_n 0, 1) := by decide +kernel
theorem dX6_matched_1 : decode cX6_matched 1 = .ok (.iload_n 1, 1) := by decide +kernel
theorem dX6_matched_2 : decode cX6_matched 2 = .ok (.invokevirtual 62, 3) := by decide +kernel
theorem dX6_matched_5 : decode cX6_matched 5 = .ok (.astore_n 2, 1) := by decide +kernel
theorem dX6_matched_6 : decode cX6_matched 6 = .ok (.aload_n 0, 1) := by decide +kernel
theorem dX6_matched_7 : decode cX6_matched 7 = .ok (.aload_n 2, 1) := by decide +kernel
theorem dX6_matched_8 : decode cX6_matched 8 = .ok (.iconst 1, 1) := by decide +kernel
theorem dX6_matched_9 : decode cX6_matched 9 = .ok (.invokevirtual 135, 3) := by decide +kernel
theorem dX6_matched_12 : decode cX6_matched 12 = .ok (.lstore_n 3, 1) := by decide +kernel
theorem dX6_matched_13 : decode cX6_matched 13 = .ok (.iconst 0, 1) := by decide +kernel
theorem dX6_matched_14 : decode cX6_matched 14 = .ok (.istore 5, 2) := by decide +kernel
theorem dX6_matched_16 : decode cX6_matched 16 = .ok (.iconst 1, 1) := by decide +kernel
theorem dX6_matched_17 : decode cX6_matched 17 = .ok (.istore 6, 2) := by decide +kernel
theorem dX6_matched_19 : decode cX6_matched 19 = .ok (.iload 6, 2) := by decide +kernel
theorem dX6_matched_21 : decode cX6_matched 21 = .ok (.aload_n 2, 1) := by decide +kernel
theorem dX6_matched_22 : decode cX6_matched 22 = .ok (.invokevirtual 71, 3) := by decide +kernel
theorem dX6_matched_25 : decode cX6_matched 25 = .ok (.if_icmp .gt 27, 3) := by decide +kernel
theorem dX6_matched_28 : decode cX6_matched 28 = .ok (.aload_n 2, 1) := by decide +kernel
theorem dX6_matched_29 : decode cX6_matched 29 = .ok (.iload 6, 2) := by decide +kernel
theorem dX6_matched_31 : decode cX6_matched 31 = .ok (.invokevirtual 166, 3) := by decide +kernel
theorem dX6_matched_34 : decode cX6_matched 34 = .ok (.lload_n 3, 1) := by decide +kernel
theorem dX6_matched_35 : decode cX6_matched 35 = .ok (.iload 6, 2) := by decide +kernel
theorem dX6_matched_37 : decode cX6_matched 37 = .ok (.invokestatic 151, 3) := by decide +kernel
theorem dX6_matched_40 : decode cX6_matched 40 = .ok (.if_icmp .ne 6, 3) := by decide +kernel
theorem dX6_matched_43 : decode cX6_matched 43 = .ok (.iinc 5 1, 3) := by decide +kernel
theorem dX6_matched_46 : decode cX6_matched 46 = .ok (.iinc 6 1, 3) := by decide +kernel
theorem dX6_matched_49 : decode cX6_matched 49 = .ok (.goto (-30), 3) := by decide +kernel
theorem dX6_matched_52 : decode cX6_matched 52 = .ok (.iload 5, 2) := by decide +kernel
theorem dX6_matched_54 : decode cX6_matched 54 = .ok (.ireturn, 1) := by decide +kernel
set_option maxRecDepth 20000 in
theorem ggX6_mend_X6_find : GoodIn wsX6_mend wsX6_find := goodIn_ca (goodIn_r _ [8, 9, 10, 11, 221, 222, 223, 224, 225, 226, 227] (by decide +kernel) (by decide +kernel)) (goodIn_sub (fun _ h => List.mem_cons_of_mem _ (List.mem_append_right _ h)) (by decide +kernel))
set_option maxRecDepth 20000 in
theorem gX6_mend_X6_find : GoodIn wsX6_mend (wsV RX6 62 RX6 yX6_find wsX6_find) := goodIn_app (goodIn_of _ (by decide +kernel)) ggX6_mend_X6_find
set_option maxRecDepth 20000 in
theorem ggX6_mend_X2_hasRightTree : GoodIn wsX6_mend wsX2_hasRightTree := goodIn_r _ [16, 17, 18, 19, 20, 15, 21, 22, 23, 7, 24, 228, 229, 230, 231] (by decide +kernel) (by decide +kernel)
set_option maxRecDepth 20000 in
theorem gX6_mend_X2_hasRightTree : GoodIn wsX6_mend (wsV RX6 169 RX2 yX2_hasRightTree wsX2_hasRightTree) := goodIn_app (goodIn_of _ (by decide +kernel)) ggX6_mend_X2_hasRightTree
set_option maxRecDepth 20000 in
theorem ggX6_mend_X6_bestKey : GoodIn wsX6_mend wsX6_bestKey := goodIn_ca (goodIn_r _ [28, 29, 3, 30, 31, 32, 33, 34, 35, 36, 37, 38, 39, 40, 41, 42, 43, 44, 45, 46, 47, 15, 48, 17, 49, 50, 51, 52, 53, 54, 55, 56, 57, 23, 7, 24, 58, 59, 60, 61, 62, 63, 64, 65, 66, 67, 68, 69, 70, 71, 72, 73, 74, 75, 76, 77, 78, 79, 80, 81, 82, 83, 84, 85, 86, 87, 88, 89, 90, 91, 92, 93, 94, 95, 96, 97, 98, 99, 100, 101, 102, 103, 104, 105, 106, 107, 108, 109, 110, 111, 112, 113, 114, 115, 116, 117, 118, 119, 120, 121, 122, 123, 124, 125, 126, 127, 128, 129, 130, 131, 132, 133, 134, 135, 136, 137, 138, 139, 140, 141, 142, 143, 144, 145, 146, 147, 148, 149, 150, 151, 152, 153, 154, 155, 156, 157, 158, 159, 160, 161, 162, 163, 164, 165, 166, 167, 168, 169, 170, 171, 172, 173, 174, 1, 2, 175, 221, 222, 223, 224, 225, 226, 227, 232, 233, 228, 229, 230, 231, 234, 235, 236, 237, 238, 239, 240, 241, 242, 243, 244, 245, 246, 247, 248, 249, 250] (by decide +kernel) (by decide +kernel)) (goodIn_sub (fun _ h => List.mem_cons_of_mem _ (List.mem_append_left _ (List.mem_append_right _ h))) (by decide +kernel))
set_option maxRecDepth 20000 in
theorem gX6_mend_X6_bestKey : GoodIn wsX6_mend (wsV RX6 135 RX6 yX6_bestKey wsX6_bestKey) := goodIn_app (goodIn_of _ (by decide +kernel)) ggX6_mend_X6_bestKey
set_option maxRecDepth 20000 in
theorem ggX6_mend_X5_keep : GoodIn wsX6_mend wsX5_keep := goodIn_r _ [179, 180, 80, 181, 182, 183, 184, 185, 186, 187, 188, 189, 190, 191, 38, 39, 40, 192, 193, 65, 194, 234, 235, 236, 237, 238, 239, 240, 241] (by decide +kernel) (by decide +kernel)
set_option maxRecDepth 20000 in
theorem gX6_mend_X5_keep : GoodIn wsX6_mend (wsV RX6 97 RX5 yX5_keep wsX5_keep) := goodIn_app (goodIn_of _ (by decide +kernel)) ggX6_mend_X5_keep
set_option maxRecDepth 20000 in
theorem ggX6_mend_X2_size : GoodIn wsX6_mend wsX2_size := goodIn_r _ [48, 17, 228, 229, 230, 231] (by decide +kernel) (by decide +kernel)
set_option maxRecDepth 20000 in
theorem gX6_mend_X2_size : GoodIn wsX6_mend (wsV RX6 71 RX2 yX2_size wsX2_size) := goodIn_app (goodIn_of _ (by decide +kernel)) ggX6_mend_X2_size
set_option maxRecDepth 20000 in
theorem ggX6_mend_X2_rightHead : GoodIn wsX6_mend wsX2_rightHead := goodIn_r _ [21, 22, 23, 7, 24, 228, 229, 230, 231] (by decide +kernel) (by decide +kernel)
set_option maxRecDepth 20000 in
theorem gX6_mend_X2_rightHead : GoodIn wsX6_mend (wsV RX6 166 RX2 yX2_rightHead wsX2_rightHead) := goodIn_app (goodIn_of _ (by decide +kernel)) ggX6_mend_X2_rightHead
set_option maxRecDepth 20000 in
theorem ggX6_mend_X6_headIn : GoodIn wsX6_mend wsX6_headIn := goodIn_r _ [199, 200, 201, 202, 7, 203, 204, 205, 206, 207, 208] (by decide +kernel) (by decide +kernel)
set_option maxRecDepth 20000 in
theorem gX6_mend_X6_headIn : GoodIn wsX6_mend (va_wsS RX6 151 yX6_headIn wsX6_headIn) := goodIn_app (goodIn_of _ (by decide +kernel)) ggX6_mend_X6_headIn
set_option maxRecDepth 20000 in
theorem ggX6_mend_X5_addToArc : GoodIn wsX6_mend wsX5_addToArc := goodIn_r _ [212, 67, 68, 69, 15, 70, 71, 72, 73, 74, 75, 23, 7, 24, 84, 85, 86, 87, 39, 88, 89, 38, 40, 76, 77, 78, 65, 79, 80, 81, 82, 83, 213, 214, 215, 216, 228, 229, 230, 231, 234, 235, 236, 237, 238, 239, 240, 241] (by decide +kernel) (by decide +kernel)
set_option maxRecDepth 20000 in
theorem gX6_mend_X5_addToArc : GoodIn wsX6_mend (wsV RX6 175 RX5 yX5_addToArc wsX5_addToArc) := goodIn_app (goodIn_of _ (by decide +kernel)) ggX6_mend_X5_addToArc
set_option maxRecDepth 20000 in
theorem ggX6_mend_X5_endStep : GoodIn wsX6_mend wsX5_endStep := goodIn_r _ [220, 186, 80, 189, 234, 235, 236, 237, 238, 239, 240, 241] (by decide +kernel) (by decide +kernel)
set_option maxRecDepth 20000 in
theorem gX6_mend_X5_endStep : GoodIn wsX6_mend (wsV RX6 179 RX5 yX5_endStep wsX5_endStep) := goodIn_app (goodIn_of _ (by decide +kernel)) ggX6_mend_X5_endStep
theorem dX6_mend_0 : decode cX6_mend 0 = .ok (.aload_n 0, 1) := by decide +kernel
theorem dX6_mend_1 : decode cX6_mend 1 = .ok (.iload_n 1, 1) := by decide +kernel
theorem dX6_mend_2 : decode cX6_mend 2 = .ok (.invokevirtual 62, 3) := by decide +kernel
theorem dX6_mend_5 : decode cX6_mend 5 = .ok (.astore_n 2, 1) := by decide +kernel
theorem dX6_mend_6 : decode cX6_mend 6 = .ok (.aload_n 2, 1) := by decide +kernel
theorem dX6_mend_7 : decode cX6_mend 7 = .ok (.invokevirtual 169, 3) := by decide +kernel
theorem dX6_mend_10 : decode cX6_mend 10 = .ok (.ifCond .ne 13, 3) := by decide +kernel
theorem dX6_mend_13 : decode cX6_mend 13 = .ok (.new 54, 3) := by decide +kernel
theorem dX6_mend_16 : decode cX6_mend 16 = .ok (.dup, 1) := by decide +kernel
theorem dX6_mend_17 : decode cX6_mend 17 = .ok (.ldc 173, 2) := by decide +kernel
theorem dX6_mend_19 : decode cX6_mend 19 = .ok (.invokespecial 58, 3) := by decide +kernel
theorem dX6_mend_22 : decode cX6_mend 22 = .ok (.athrow, 1) := by decide +kernel
theorem dX6_mend_23 : decode cX6_mend 23 = .ok (.aload_n 0, 1) := by decide +kernel
theorem dX6_mend_24 : decode cX6_mend 24 = .ok (.aload_n 2, 1) := by decide +kernel
theorem dX6_mend_25 : decode cX6_mend 25 = .ok (.iconst 1, 1) := by decide +kernel
theorem dX6_mend_26 : decode cX6_mend 26 = .ok (.invokevirtual 135, 3) := by decide +kernel
theorem dX6_mend_29 : decode cX6_mend 29 = .ok (.lstore_n 3, 1) := by decide +kernel
theorem dX6_mend_30 : decode cX6_mend 30 = .ok (.aload_n 0, 1) := by decide +kernel
theorem dX6_mend_31 : decode cX6_mend 31 = .ok (.getfield 22, 3) := by decide +kernel
theorem dX6_mend_34 : decode cX6_mend 34 = .ok (.invokevirtual 97, 3) := by decide +kernel
theorem dX6_mend_37 : decode cX6_mend 37 = .ok (.iconst 0, 1) := by decide +kernel
theorem dX6_mend_38 : decode cX6_mend 38 = .ok (.istore 5, 2) := by decide +kernel
theorem dX6_mend_40 : decode cX6_mend 40 = .ok (.iconst 1, 1) := by decide +kernel
theorem dX6_mend_41 : decode cX6_mend 41 = .ok (.istore 6, 2) := by decide +kernel
theorem dX6_mend_43 : decode cX6_mend 43 = .ok (.iload 6, 2) := by decide +kernel
theorem dX6_mend_45 : decode cX6_mend 45 = .ok (.aload_n 2, 1) := by decide +kernel
theorem dX6_mend_46 : decode cX6_mend 46 = .ok (.invokevirtual 71, 3) := by decide +kernel
theorem dX6_mend_49 : decode cX6_mend 49 = .ok (.if_icmp .gt 61, 3) := by decide +kernel
theorem dX6_mend_52 : decode cX6_mend 52 = .ok (.aload_n 2, 1) := by decide +kernel
theorem dX6_mend_53 : decode cX6_mend 53 = .ok (.iload 6, 2) := by decide +kernel
theorem dX6_mend_55 : decode cX6_mend 55 = .ok (.invokevirtual 166, 3) := by decide +kernel
theorem dX6_mend_58 : decode cX6_mend 58 = .ok (.istore 7, 2) := by decide +kernel
theorem dX6_mend_60 : decode cX6_mend 60 = .ok (.lload_n 3, 1) := by decide +kernel
theorem dX6_mend_61 : decode cX6_mend 61 = .ok (.iload 6, 2) := by decide +kernel
theorem dX6_mend_63 : decode cX6_mend 63 = .ok (.invokestatic 151, 3) := by decide +kernel
theorem dX6_mend_66 : decode cX6_mend 66 = .ok (.istore 8, 2) := by decide +kernel
theorem dX6_mend_68 : decode cX6_mend 68 = .ok (.iload 7, 2) := by decide +kernel
theorem dX6_mend_70 : decode cX6_mend 70 = .ok (.iload 8, 2) := by decide +kernel
theorem dX6_mend_72 : decode cX6_mend 72 = .ok (.if_icmp .eq 32, 3) := by decide +kernel
theorem dX6_mend_75 : decode cX6_mend 75 = .ok (.iinc 5 1, 3) := by decide +kernel
theorem dX6_mend_78 : decode cX6_mend 78 = .ok (.aload_n 0, 1) := by decide +kernel
theorem dX6_mend_79 : decode cX6_mend 79 = .ok (.getfield 22, 3) := by decide +kernel
theorem dX6_mend_82 : decode cX6_mend 82 = .ok (.aload_n 2, 1) := by decide +kernel
theorem dX6_mend_83 : decode cX6_mend 83 = .ok (.iload 7, 2) := by decide +kernel
theorem dX6_mend_85 : decode cX6_mend 85 = .ok (.iload 6, 2) := by decide +kernel
theorem dX6_mend_87 : decode cX6_mend 87 = .ok (.iconst 1, 1) := by decide +kernel
theorem dX6_mend_88 : decode cX6_mend 88 = .ok (.invokevirtual 175, 3) := by decide +kernel
theorem dX6_mend_91 : decode cX6_mend 91 = .ok (.aload_n 0, 1) := by decide +kernel
theorem dX6_mend_92 : decode cX6_mend 92 = .ok (.getfield 22, 3) := by decide +kernel
theorem dX6_mend_95 : decode cX6_mend 95 = .ok (.aload_n 2, 1) := by decide +kernel
theorem dX6_mend_96 : decode cX6_mend 96 = .ok (.iload 8, 2) := by decide +kernel
theorem dX6_mend_98 : decode cX6_mend 98 = .ok (.iload 6, 2) := by decide +kernel
theorem dX6_mend_100 : decode cX6_mend 100 = .ok (.iconst (-1), 1) := by decide +kernel
theorem dX6_mend_101 : decode cX6_mend 101 = .ok (.invokevirtual 175, 3) := by decide +kernel
theorem dX6_mend_104 : decode cX6_mend 104 = .ok (.iinc 6 1, 3) := by decide +kernel
theorem dX6_mend_107 : decode cX6_mend 107 = .ok (.goto (-64), 3) := by decide +kernel
theorem dX6_mend_110 : decode cX6_mend 110 = .ok (.aload_n 0, 1) := by decide +kernel
theorem dX6_mend_111 : decode cX6_mend 111 = .ok (.getfield 22, 3) := by decide +kernel
theorem dX6_mend_114 : decode cX6_mend 114 = .ok (.invokevirtual 179, 3) := by decide +kernel
theorem dX6_mend_117 : decode cX6_mend 117 = .ok (.iload 5, 2) := by decide +kernel
theorem dX6_mend_119 : decode cX6_mend 119 = .ok (.ireturn, 1) := by decide +kernel
set_option maxRecDepth 20000 in
theorem ggX6_steps_X5_stepCount : GoodIn wsX6_steps wsX5_stepCount := goodIn_r _ [6, 7, 15, 16, 17, 18, 19, 20, 21, 22] (by decide +kernel) (by decide +kernel)
set_option maxRecDepth 20000 in
theorem gX6_steps_X5_stepCount : GoodIn wsX6_steps (wsV RX6 182 RX5 yX5_stepCount wsX5_stepCount) := goodIn_app (goodIn_of _ (by decide +kernel)) ggX6_steps_X5_stepCount
theorem dX6_steps_0 : decode cX6_steps 0 = .ok (.aload_n 0, 1) := by decide +kernel
theorem dX6_steps_1 : decode cX6_steps 1 = .ok (.getfield 22, 3) := by decide +kernel
theorem dX6_steps_4 : decode cX6_steps 4 = .ok (.invokevirtual 182, 3) := by decide +kernel
theorem dX6_steps_7 : decode cX6_steps 7 = .ok (.ireturn, 1) := by decide +kernel
set_option maxRecDepth 20000 in
theorem ggX6_average_X6_checkFeature : GoodIn wsX6_average wsX6_checkFeature := goodIn_ca (goodIn_r _ [5, 6, 7] (by decide +kernel) (by decide +kernel)) (goodIn_sub (fun _ h => List.mem_cons_of_mem _ (List.mem_append_right _ h)) (by decide +kernel))
set_option maxRecDepth 20000 in
theorem gX6_average_X6_checkFeature : GoodIn wsX6_average (va_wsS RX6 89 yX6_checkFeature wsX6_checkFeature) := goodIn_app (goodIn_of _ (by decide +kernel)) ggX6_average_X6_checkFeature
set_option maxRecDepth 20000 in
theorem ggX6_average_X5_averageOf : GoodIn wsX6_average wsX5_averageOf := goodIn_r _ [12, 13, 14, 15, 16, 11, 17, 25, 26, 27, 28, 29, 30, 31, 32] (by decide +kernel) (by decide +kernel)
set_option maxRecDepth 20000 in
theorem gX6_average_X5_averageOf : GoodIn wsX6_average (wsV RX6 185 RX5 yX5_averageOf wsX5_averageOf) := goodIn_app (goodIn_of _ (by decide +kernel)) ggX6_average_X5_averageOf
theorem dX6_average_0 : decode cX6_average 0 = .ok (.iload_n 1, 1) := by decide +kernel
theorem dX6_average_1 : decode cX6_average 1 = .ok (.invokestatic 89, 3) := by decide +kernel
theorem dX6_average_4 : decode cX6_average 4 = .ok (.aload_n 0, 1) := by decide +kernel
theorem dX6_average_5 : decode cX6_average 5 = .ok (.getfield 22, 3) := by decide +kernel
theorem dX6_average_8 : decode cX6_average 8 = .ok (.iload_n 1, 1) := by decide +kernel
theorem dX6_average_9 : decode cX6_average 9 = .ok (.invokevirtual 185, 3) := by decide +kernel
theorem dX6_average_12 : decode cX6_average 12 = .ok (.dreturn, 1) := by decide +kernel
set_option maxRecDepth 20000 in
theorem ggX6_rollBack_X5_keptCount : GoodIn wsX6_rollBack wsX5_keptCount := goodIn_r _ [8, 9, 35, 36, 37, 38, 39, 40, 41, 42] (by decide +kernel) (by decide +kernel)
set_option maxRecDepth 20000 in
theorem gX6_rollBack_X5_keptCount : GoodIn wsX6_rollBack (wsV RX6 189 RX5 yX5_keptCount wsX5_keptCount) := goodIn_app (goodIn_of _ (by decide +kernel)) ggX6_rollBack_X5_keptCount
set_option maxRecDepth 20000 in
theorem ggX6_rollBack_X5_takeBack : GoodIn wsX6_rollBack wsX5_takeBack := goodIn_r _ [13, 14, 9, 15, 16, 17, 18, 19, 20, 21, 22, 23, 24, 25, 26, 7, 27, 35, 36, 37, 38, 39, 40, 41, 42] (by decide +kernel) (by decide +kernel)
set_option maxRecDepth 20000 in
theorem gX6_rollBack_X5_takeBack : GoodIn wsX6_rollBack (wsV RX6 194 RX5 yX5_takeBack wsX5_takeBack) := goodIn_app (goodIn_of _ (by decide +kernel)) ggX6_rollBack_X5_takeBack
theorem dX6_rollBack_0 : decode cX6_rollBack 0 = .ok (.aload_n 0, 1) := by decide +kernel
theorem dX6_rollBack_1 : decode cX6_rollBack 1 = .ok (.getfield 22, 3) := by decide +kernel
theorem dX6_rollBack_4 : decode cX6_rollBack 4 = .ok (.invokevirtual 189, 3) := by decide +kernel
theorem dX6_rollBack_7 : decode cX6_rollBack 7 = .ok (.ifCond .gt 13, 3) := by decide +kernel
theorem dX6_rollBack_10 : decode cX6_rollBack 10 = .ok (.new 54, 3) := by decide +kernel
theorem dX6_rollBack_13 : decode cX6_rollBack 13 = .ok (.dup, 1) := by decide +kernel
theorem dX6_rollBack_14 : decode cX6_rollBack 14 = .ok (.ldc 192, 2) := by decide +kernel
theorem dX6_rollBack_16 : decode cX6_rollBack 16 = .ok (.invokespecial 58, 3) := by decide +kernel
theorem dX6_rollBack_19 : decode cX6_rollBack 19 = .ok (.athrow, 1) := by decide +kernel
theorem dX6_rollBack_20 : decode cX6_rollBack 20 = .ok (.aload_n 0, 1) := by decide +kernel
theorem dX6_rollBack_21 : decode cX6_rollBack 21 = .ok (.getfield 22, 3) := by decide +kernel
theorem dX6_rollBack_24 : decode cX6_rollBack 24 = .ok (.invokevirtual 194, 3) := by decide +kernel
theorem dX6_rollBack_27 : decode cX6_rollBack 27 = .ok (.aload_n 0, 1) := by decide +kernel
theorem dX6_rollBack_28 : decode cX6_rollBack 28 = .ok (.getfield 22, 3) := by decide +kernel
theorem dX6_rollBack_31 : decode cX6_rollBack 31 = .ok (.invokevirtual 189, 3) := by decide +kernel
theorem dX6_rollBack_34 : decode cX6_rollBack 34 = .ok (.ireturn, 1) := by decide +kernel
theorem dX6_find_0 : decode cX6_find 0 = .ok (.iload_n 1, 1) := by decide +kernel
theorem dX6_find_1 : decode cX6_find 1 = .ok (.ifCond .lt 12, 3) := by decide +kernel
theorem dX6_find_4 : decode cX6_find 4 = .ok (.iload_n 1, 1) := by decide +kernel
theorem dX6_find_5 : decode cX6_find 5 = .ok (.aload_n 0, 1) := by decide +kernel
theorem dX6_find_6 : decode cX6_find 6 = .ok (.getfield 11, 3) := by decide +kernel
theorem dX6_find_9 : decode cX6_find 9 = .ok (.arraylength, 1) := by decide +kernel
theorem dX6_find_10 : decode cX6_find 10 = .ok (.if_icmp .lt 13, 3) := by decide +kernel
theorem dX6_find_13 : decode cX6_find 13 = .ok (.new 197, 3) := by decide +kernel
theorem dX6_find_16 : decode cX6_find 16 = .ok (.dup, 1) := by decide +kernel
theorem dX6_find_17 : decode cX6_find 17 = .ok (.ldc 199, 2) := by decide +kernel
theorem dX6_find_19 : decode cX6_find 19 = .ok (.invokespecial 201, 3) := by decide +kernel
theorem dX6_find_22 : decode cX6_find 22 = .ok (.athrow, 1) := by decide +kernel
theorem dX6_find_23 : decode cX6_find 23 = .ok (.aload_n 0, 1) := by decide +kernel
theorem dX6_find_24 : decode cX6_find 24 = .ok (.getfield 11, 3) := by decide +kernel
theorem dX6_find_27 : decode cX6_find 27 = .ok (.iload_n 1, 1) := by decide +kernel
theorem dX6_find_28 : decode cX6_find 28 = .ok (.aaload, 1) := by decide +kernel
theorem dX6_find_29 : decode cX6_find 29 = .ok (.astore_n 2, 1) := by decide +kernel
theorem dX6_find_30 : decode cX6_find 30 = .ok (.aload_n 2, 1) := by decide +kernel
theorem dX6_find_31 : decode cX6_find 31 = .ok (.ifnonnull 13, 3) := by decide +kernel
theorem dX6_find_34 : decode cX6_find 34 = .ok (.new 197, 3) := by decide +kernel
theorem dX6_find_37 : decode cX6_find 37 = .ok (.dup, 1) := by decide +kernel
theorem dX6_find_38 : decode cX6_find 38 = .ok (.ldc 199, 2) := by decide +kernel
theorem dX6_find_40 : decode cX6_find 40 = .ok (.invokespecial 201, 3) := by decide +kernel
theorem dX6_find_43 : decode cX6_find 43 = .ok (.athrow, 1) := by decide +kernel
theorem dX6_find_44 : decode cX6_find 44 = .ok (.aload_n 2, 1) := by decide +kernel
theorem dX6_find_45 : decode cX6_find 45 = .ok (.areturn, 1) := by decide +kernel
set_option maxRecDepth 20000 in
theorem ggX6_checkWord_X2_size : GoodIn wsX6_checkWord wsX2_size := goodIn_r _ [7, 8, 9, 10, 11, 12] (by decide +kernel) (by decide +kernel)
set_option maxRecDepth 20000 in
theorem gX6_checkWord_X2_size : GoodIn wsX6_checkWord (wsV RX6 71 RX2 yX2_size wsX2_size) := goodIn_app (goodIn_of _ (by decide +kernel)) ggX6_checkWord_X2_size
theorem dX6_checkWord_0 : decode cX6_checkWord 0 = .ok (.iload_n 1, 1) := by decide +kernel
theorem dX6_checkWord_1 : decode cX6_checkWord 1 = .ok (.iconst 1, 1) := by decide +kernel
theorem dX6_checkWord_2 : decode cX6_checkWord 2 = .ok (.if_icmp .lt 11, 3) := by decide +kernel
theorem dX6_checkWord_5 : decode cX6_checkWord 5 = .ok (.iload_n 1, 1) := by decide +kernel
theorem dX6_checkWord_6 : decode cX6_checkWord 6 = .ok (.aload_n 0, 1) := by decide +kernel
theorem dX6_checkWord_7 : decode cX6_checkWord 7 = .ok (.invokevirtual 71, 3) := by decide +kernel
theorem dX6_checkWord_10 : decode cX6_checkWord 10 = .ok (.if_icmp .le 13, 3) := by decide +kernel
theorem dX6_checkWord_13 : decode cX6_checkWord 13 = .ok (.new 197, 3) := by decide +kernel
theorem dX6_checkWord_16 : decode cX6_checkWord 16 = .ok (.dup, 1) := by decide +kernel
theorem dX6_checkWord_17 : decode cX6_checkWord 17 = .ok (.ldc 202, 2) := by decide +kernel
theorem dX6_checkWord_19 : decode cX6_checkWord 19 = .ok (.invokespecial 201, 3) := by decide +kernel
theorem dX6_checkWord_22 : decode cX6_checkWord 22 = .ok (.athrow, 1) := by decide +kernel
theorem dX6_checkWord_23 : decode cX6_checkWord 23 = .ok (.return_, 1) := by decide +kernel
set_option maxRecDepth 20000 in
theorem ggX6_checkArc_X2_size : GoodIn wsX6_checkArc wsX2_size := goodIn_r _ [9, 10, 15, 16, 17, 18] (by decide +kernel) (by decide +kernel)
set_option maxRecDepth 20000 in
theorem gX6_checkArc_X2_size : GoodIn wsX6_checkArc (wsV RX6 71 RX2 yX2_size wsX2_size) := goodIn_app (goodIn_of _ (by decide +kernel)) ggX6_checkArc_X2_size
set_option maxRecDepth 20000 in
theorem ggX6_checkArc_X6_checkWord : GoodIn wsX6_checkArc wsX6_checkWord := goodIn_ca (goodIn_r _ [14, 1, 2, 5, 6, 7, 8, 9, 10, 15, 16, 17, 18] (by decide +kernel) (by decide +kernel)) (goodIn_sub (fun _ h => List.mem_cons_of_mem _ (List.mem_append_left _ (List.mem_append_right _ h))) (by decide +kernel))
set_option maxRecDepth 20000 in
theorem gX6_checkArc_X6_checkWord : GoodIn wsX6_checkArc (va_wsS RX6 81 yX6_checkWord wsX6_checkWord) := goodIn_app (goodIn_of _ (by decide +kernel)) ggX6_checkArc_X6_checkWord
theorem dX6_checkArc_0 : decode cX6_checkArc 0 = .ok (.iload_n 1, 1) := by decide +kernel
theorem dX6_checkArc_1 : decode cX6_checkArc 1 = .ok (.ifCond .lt 11, 3) := by decide +kernel
theorem dX6_checkArc_4 : decode cX6_checkArc 4 = .ok (.iload_n 1, 1) := by decide +kernel
theorem dX6_checkArc_5 : decode cX6_checkArc 5 = .ok (.aload_n 0, 1) := by decide +kernel
theorem dX6_checkArc_6 : decode cX6_checkArc 6 = .ok (.invokevirtual 71, 3) := by decide +kernel
theorem dX6_checkArc_9 : decode cX6_checkArc 9 = .ok (.if_icmp .le 13, 3) := by decide +kernel
theorem dX6_checkArc_12 : decode cX6_checkArc 12 = .ok (.new 197, 3) := by decide +kernel
theorem dX6_checkArc_15 : decode cX6_checkArc 15 = .ok (.dup, 1) := by decide +kernel
theorem dX6_checkArc_16 : decode cX6_checkArc 16 = .ok (.ldc 204, 2) := by decide +kernel
theorem dX6_checkArc_18 : decode cX6_checkArc 18 = .ok (.invokespecial 201, 3) := by decide +kernel
theorem dX6_checkArc_21 : decode cX6_checkArc 21 = .ok (.athrow, 1) := by decide +kernel
theorem dX6_checkArc_22 : decode cX6_checkArc 22 = .ok (.aload_n 0, 1) := by decide +kernel
theorem dX6_checkArc_23 : decode cX6_checkArc 23 = .ok (.iload_n 2, 1) := by decide +kernel
theorem dX6_checkArc_24 : decode cX6_checkArc 24 = .ok (.invokestatic 81, 3) := by decide +kernel
theorem dX6_checkArc_27 : decode cX6_checkArc 27 = .ok (.iload_n 1, 1) := by decide +kernel
theorem dX6_checkArc_28 : decode cX6_checkArc 28 = .ok (.iload_n 2, 1) := by decide +kernel
theorem dX6_checkArc_29 : decode cX6_checkArc 29 = .ok (.if_icmp .ne 13, 3) := by decide +kernel
theorem dX6_checkArc_32 : decode cX6_checkArc 32 = .ok (.new 66, 3) := by decide +kernel
theorem dX6_checkArc_35 : decode cX6_checkArc 35 = .ok (.dup, 1) := by decide +kernel
theorem dX6_checkArc_36 : decode cX6_checkArc 36 = .ok (.ldc 206, 2) := by decide +kernel
theorem dX6_checkArc_38 : decode cX6_checkArc 38 = .ok (.invokespecial 70, 3) := by decide +kernel
theorem dX6_checkArc_41 : decode cX6_checkArc 41 = .ok (.athrow, 1) := by decide +kernel
theorem dX6_checkArc_42 : decode cX6_checkArc 42 = .ok (.return_, 1) := by decide +kernel
theorem dX6_checkFeature_0 : decode cX6_checkFeature 0 = .ok (.iload_n 0, 1) := by decide +kernel
theorem dX6_checkFeature_1 : decode cX6_checkFeature 1 = .ok (.ifCond .lt 9, 3) := by decide +kernel
theorem dX6_checkFeature_4 : decode cX6_checkFeature 4 = .ok (.iload_n 0, 1) := by decide +kernel
theorem dX6_checkFeature_5 : decode cX6_checkFeature 5 = .ok (.bipush 28, 2) := by decide +kernel
theorem dX6_checkFeature_7 : decode cX6_checkFeature 7 = .ok (.if_icmp .lt 13, 3) := by decide +kernel
theorem dX6_checkFeature_10 : decode cX6_checkFeature 10 = .ok (.new 197, 3) := by decide +kernel
theorem dX6_checkFeature_13 : decode cX6_checkFeature 13 = .ok (.dup, 1) := by decide +kernel
theorem dX6_checkFeature_14 : decode cX6_checkFeature 14 = .ok (.ldc 208, 2) := by decide +kernel
theorem dX6_checkFeature_16 : decode cX6_checkFeature 16 = .ok (.invokespecial 201, 3) := by decide +kernel
theorem dX6_checkFeature_19 : decode cX6_checkFeature 19 = .ok (.athrow, 1) := by decide +kernel
theorem dX6_checkFeature_20 : decode cX6_checkFeature 20 = .ok (.return_, 1) := by decide +kernel
theorem dX6_checkTree_0 : decode cX6_checkTree 0 = .ok (.lload_n 0, 1) := by decide +kernel
theorem dX6_checkTree_1 : decode cX6_checkTree 1 = .ok (.ldc2_w 210, 3) := by decide +kernel
theorem dX6_checkTree_4 : decode cX6_checkTree 4 = .ok (.lcmp, 1) := by decide +kernel
theorem dX6_checkTree_5 : decode cX6_checkTree 5 = .ok (.ifCond .ne 13, 3) := by decide +kernel
theorem dX6_checkTree_8 : decode cX6_checkTree 8 = .ok (.new 54, 3) := by decide +kernel
theorem dX6_checkTree_11 : decode cX6_checkTree 11 = .ok (.dup, 1) := by decide +kernel
theorem dX6_checkTree_12 : decode cX6_checkTree 12 = .ok (.ldc 212, 2) := by decide +kernel
theorem dX6_checkTree_14 : decode cX6_checkTree 14 = .ok (.invokespecial 58, 3) := by decide +kernel
theorem dX6_checkTree_17 : decode cX6_checkTree 17 = .ok (.athrow, 1) := by decide +kernel
theorem dX6_checkTree_18 : decode cX6_checkTree 18 = .ok (.return_, 1) := by decide +kernel
set_option maxRecDepth 20000 in
theorem ggX6_tryAll_X0_fill : GoodIn wsX6_tryAll wsX0_fill := goodIn_r _ [8, 9, 10, 11, 12, 13, 14, 15, 16, 17, 18, 19, 20, 21, 22, 23, 24, 25, 26, 27, 28, 29, 30, 31, 32, 33, 34, 35, 36, 37, 38, 39, 40, 41, 42, 43, 44, 45, 46, 47, 48, 49, 50, 51, 52, 53, 54, 55, 56, 57, 58, 59, 60, 61, 62, 63, 64, 65, 66, 111, 112, 113, 114, 115, 116, 117, 118, 119, 120, 121, 122, 123, 124] (by decide +kernel) (by decide +kernel)
set_option maxRecDepth 20000 in
theorem gX6_tryAll_X0_fill : GoodIn wsX6_tryAll (wsV RX6 214 RX0 yX0_fill wsX0_fill) := goodIn_app (goodIn_of _ (by decide +kernel)) ggX6_tryAll_X0_fill
set_option maxRecDepth 20000 in
theorem ggX6_tryAll_X4_run : GoodIn wsX6_tryAll wsX4_run := goodIn_r _ [71, 72, 73, 74, 70, 75, 76, 77, 78, 79, 80, 7, 81, 13, 82, 83, 84, 85, 86, 87, 88, 89, 90, 14, 15, 32, 33, 34, 91, 92, 93, 94, 95, 96, 97, 98, 99, 100, 66, 10, 11, 12, 101, 102, 103, 125, 126, 127, 111, 112] (by decide +kernel) (by decide +kernel)
set_option maxRecDepth 20000 in
theorem gX6_tryAll_X4_run : GoodIn wsX6_tryAll (wsV RX6 218 RX4 yX4_run wsX4_run) := goodIn_app (goodIn_of _ (by decide +kernel)) ggX6_tryAll_X4_run
theorem dX6_tryAll_0 : decode cX6_tryAll 0 = .ok (.aload_n 0, 1) := by decide +kernel
theorem dX6_tryAll_1 : decode cX6_tryAll 1 = .ok (.getfield 29, 3) := by decide +kernel
theorem dX6_tryAll_4 : decode cX6_tryAll 4 = .ok (.aload_n 1, 1) := by decide +kernel
theorem dX6_tryAll_5 : decode cX6_tryAll 5 = .ok (.aload_n 0, 1) := by decide +kernel
theorem dX6_tryAll_6 : decode cX6_tryAll 6 = .ok (.getfield 22, 3) := by decide +kernel
theorem dX6_tryAll_9 : decode cX6_tryAll 9 = .ok (.invokevirtual 214, 3) := by decide +kernel
theorem dX6_tryAll_12 : decode cX6_tryAll 12 = .ok (.aload_n 0, 1) := by decide +kernel
theorem dX6_tryAll_13 : decode cX6_tryAll 13 = .ok (.getfield 50, 3) := by decide +kernel
theorem dX6_tryAll_16 : decode cX6_tryAll 16 = .ok (.aload_n 0, 1) := by decide +kernel
theorem dX6_tryAll_17 : decode cX6_tryAll 17 = .ok (.getfield 29, 3) := by decide +kernel
theorem dX6_tryAll_20 : decode cX6_tryAll 20 = .ok (.iload_n 2, 1) := by decide +kernel
theorem dX6_tryAll_21 : decode cX6_tryAll 21 = .ok (.invokevirtual 218, 3) := by decide +kernel
theorem dX6_tryAll_24 : decode cX6_tryAll 24 = .ok (.aload_n 0, 1) := by decide +kernel
theorem dX6_tryAll_25 : decode cX6_tryAll 25 = .ok (.getfield 50, 3) := by decide +kernel
theorem dX6_tryAll_28 : decode cX6_tryAll 28 = .ok (.areturn, 1) := by decide +kernel
set_option maxRecDepth 20000 in
theorem ggX6_bestKey_X0_fill : GoodIn wsX6_bestKey wsX0_fill := goodIn_r _ [9, 10, 11, 12, 13, 14, 15, 16, 17, 18, 19, 20, 21, 22, 23, 24, 25, 26, 27, 28, 29, 30, 31, 32, 33, 34, 35, 36, 37, 38, 39, 40, 41, 42, 43, 44, 45, 46, 47, 48, 49, 50, 51, 52, 53, 54, 55, 56, 57, 58, 59, 60, 61, 62, 63, 64, 65, 66, 67, 163, 164, 165, 166, 167, 168, 169, 170, 171, 172, 173, 174, 175, 176] (by decide +kernel) (by decide +kernel)
set_option maxRecDepth 20000 in
theorem gX6_bestKey_X0_fill : GoodIn wsX6_bestKey (wsV RX6 214 RX0 yX0_fill wsX0_fill) := goodIn_app (goodIn_of _ (by decide +kernel)) ggX6_bestKey_X0_fill
set_option maxRecDepth 20000 in
theorem ggX6_bestKey_X1_greatest : GoodIn wsX6_bestKey wsX1_greatest := goodIn_r _ [72, 73, 11, 12, 13, 74, 75, 76, 77, 78, 79, 8, 80, 14, 81, 82, 83, 84, 15, 16, 33, 34, 35, 85, 86, 87, 71, 88, 89, 90, 91, 92, 93, 94, 95, 96, 97, 98, 99, 100, 101, 102, 103, 104, 105, 106, 107, 108, 109, 110, 111, 112, 113, 114, 115, 116, 117, 118, 119, 120, 121, 122, 177, 178, 179, 180, 181, 163, 164] (by decide +kernel) (by decide +kernel)
set_option maxRecDepth 20000 in
theorem gX6_bestKey_X1_greatest : GoodIn wsX6_bestKey (wsV RX6 222 RX1 yX1_greatest wsX1_greatest) := goodIn_app (goodIn_of _ (by decide +kernel)) ggX6_bestKey_X1_greatest
set_option maxRecDepth 20000 in
theorem ggX6_bestKey_X3_greatest : GoodIn wsX6_bestKey wsX3_greatest := goodIn_r _ [127, 128, 11, 12, 13, 129, 130, 131, 132, 78, 79, 8, 80, 14, 133, 134, 135, 126, 136, 137, 138, 139, 140, 141, 33, 34, 35, 142, 143, 144, 145, 82, 83, 84, 15, 16, 146, 147, 148, 149, 182, 183, 184, 185, 163, 164] (by decide +kernel) (by decide +kernel)
set_option maxRecDepth 20000 in
theorem gX6_bestKey_X3_greatest : GoodIn wsX6_bestKey (wsV RX6 225 RX3 yX3_greatest wsX3_greatest) := goodIn_app (goodIn_of _ (by decide +kernel)) ggX6_bestKey_X3_greatest
set_option maxRecDepth 20000 in
theorem ggX6_bestKey_X6_checkTree : GoodIn wsX6_bestKey wsX6_checkTree := goodIn_ca (goodIn_r _ [152, 153, 154, 155] (by decide +kernel) (by decide +kernel)) (goodIn_sub (fun _ h => List.mem_cons_of_mem _ (List.mem_append_right _ h)) (by decide +kernel))
set_option maxRecDepth 20000 in
theorem gX6_bestKey_X6_checkTree : GoodIn wsX6_bestKey (va_wsS RX6 147 yX6_checkTree wsX6_checkTree) := goodIn_app (goodIn_of _ (by decide +kernel)) ggX6_bestKey_X6_checkTree
theorem dX6_bestKey_0 : decode cX6_bestKey 0 = .ok (.aload_n 0, 1) := by decide +kernel
theorem dX6_bestKey_1 : decode cX6_bestKey 1 = .ok (.getfield 29, 3) := by decide +kernel
theorem dX6_bestKey_4 : decode cX6_bestKey 4 = .ok (.aload_n 1, 1) := by decide +kernel
theorem dX6_bestKey_5 : decode cX6_bestKey 5 = .ok (.aload_n 0, 1) := by decide +kernel
theorem dX6_bestKey_6 : decode cX6_bestKey 6 = .ok (.getfield 22, 3) := by decide +kernel
theorem dX6_bestKey_9 : decode cX6_bestKey 9 = .ok (.invokevirtual 214, 3) := by decide +kernel
theorem dX6_bestKey_12 : decode cX6_bestKey 12 = .ok (.iload_n 2, 1) := by decide +kernel
theorem dX6_bestKey_13 : decode cX6_bestKey 13 = .ok (.ifCond .eq 17, 3) := by decide +kernel
theorem dX6_bestKey_16 : decode cX6_bestKey 16 = .ok (.aload_n 0, 1) := by decide +kernel
theorem dX6_bestKey_17 : decode cX6_bestKey 17 = .ok (.getfield 43, 3) := by decide +kernel
theorem dX6_bestKey_20 : decode cX6_bestKey 20 = .ok (.aload_n 0, 1) := by decide +kernel
theorem dX6_bestKey_21 : decode cX6_bestKey 21 = .ok (.getfield 29, 3) := by decide +kernel
theorem dX6_bestKey_24 : decode cX6_bestKey 24 = .ok (.invokevirtual 222, 3) := by decide +kernel
theorem dX6_bestKey_27 : decode cX6_bestKey 27 = .ok (.goto 14, 3) := by decide +kernel
theorem dX6_bestKey_30 : decode cX6_bestKey 30 = .ok (.aload_n 0, 1) := by decide +kernel
theorem dX6_bestKey_31 : decode cX6_bestKey 31 = .ok (.getfield 36, 3) := by decide +kernel
theorem dX6_bestKey_34 : decode cX6_bestKey 34 = .ok (.aload_n 0, 1) := by decide +kernel
theorem dX6_bestKey_35 : decode cX6_bestKey 35 = .ok (.getfield 29, 3) := by decide +kernel
theorem dX6_bestKey_38 : decode cX6_bestKey 38 = .ok (.invokevirtual 225, 3) := by decide +kernel
theorem dX6_bestKey_41 : decode cX6_bestKey 41 = .ok (.lstore_n 3, 1) := by decide +kernel
theorem dX6_bestKey_42 : decode cX6_bestKey 42 = .ok (.lload_n 3, 1) := by decide +kernel
theorem dX6_bestKey_43 : decode cX6_bestKey 43 = .ok (.invokestatic 147, 3) := by decide +kernel
theorem dX6_bestKey_46 : decode cX6_bestKey 46 = .ok (.lload_n 3, 1) := by decide +kernel
theorem dX6_bestKey_47 : decode cX6_bestKey 47 = .ok (.lreturn, 1) := by decide +kernel
set_option maxRecDepth 20000 in
theorem ggX6_rankedKey_X6_tryAll : GoodIn wsX6_rankedKey wsX6_tryAll := goodIn_r _ [7, 8, 9, 10, 11, 12, 13, 14, 15, 16, 17, 18, 19, 20, 21, 22, 23, 24, 25, 26, 27, 28, 29, 30, 31, 32, 33, 34, 35, 36, 37, 38, 39, 6, 40, 41, 42, 43, 44, 45, 46, 47, 48, 49, 50, 51, 52, 53, 54, 55, 56, 57, 58, 59, 60, 61, 62, 63, 64, 65, 66, 67, 68, 69, 70, 71, 72, 73, 74, 75, 76, 77, 78, 79, 80, 81, 82, 83, 84, 85, 86, 87, 88, 89, 90, 91, 92, 93, 94, 95, 96, 97, 98, 99, 100, 101, 102, 103, 104, 105, 106, 107, 108, 109, 137, 138, 139, 140, 141, 142, 143, 144, 145, 146, 147, 148, 149, 150, 151, 152, 153, 154, 155, 156, 157, 158, 159, 160] (by decide +kernel) (by decide +kernel)
set_option maxRecDepth 20000 in
theorem gX6_rankedKey_X6_tryAll : GoodIn wsX6_rankedKey (wsV RX6 130 RX6 yX6_tryAll wsX6_tryAll) := goodIn_app (goodIn_of _ (by decide +kernel)) ggX6_rankedKey_X6_tryAll
set_option maxRecDepth 20000 in
theorem ggX6_rankedKey_X4_size : GoodIn wsX6_rankedKey wsX4_size := goodIn_r _ [113, 78, 158, 159, 160] (by decide +kernel) (by decide +kernel)
set_option maxRecDepth 20000 in
theorem gX6_rankedKey_X4_size : GoodIn wsX6_rankedKey (wsV RX6 134 RX4 yX4_size wsX4_size) := goodIn_app (goodIn_of _ (by decide +kernel)) ggX6_rankedKey_X4_size
set_option maxRecDepth 20000 in
theorem ggX6_rankedKey_X4_ofRank : GoodIn wsX6_rankedKey wsX4_ofRank := goodIn_r _ [117, 118, 119, 120, 121, 76, 122, 82, 78, 92, 123, 124, 18, 125, 126, 127, 128, 129, 130, 131, 132, 133, 134, 135, 136, 158, 159, 160] (by decide +kernel) (by decide +kernel)
set_option maxRecDepth 20000 in
theorem gX6_rankedKey_X4_ofRank : GoodIn wsX6_rankedKey (wsV RX6 228 RX4 yX4_ofRank wsX4_ofRank) := goodIn_app (goodIn_of _ (by decide +kernel)) ggX6_rankedKey_X4_ofRank
theorem dX6_rankedKey_0 : decode cX6_rankedKey 0 = .ok (.aload_n 0, 1) := by decide +kernel
theorem dX6_rankedKey_1 : decode cX6_rankedKey 1 = .ok (.aload_n 1, 1) := by decide +kernel
theorem dX6_rankedKey_2 : decode cX6_rankedKey 2 = .ok (.iload_n 2, 1) := by decide +kernel
theorem dX6_rankedKey_3 : decode cX6_rankedKey 3 = .ok (.invokevirtual 130, 3) := by decide +kernel
theorem dX6_rankedKey_6 : decode cX6_rankedKey 6 = .ok (.astore 4, 2) := by decide +kernel
theorem dX6_rankedKey_8 : decode cX6_rankedKey 8 = .ok (.iload_n 3, 1) := by decide +kernel
theorem dX6_rankedKey_9 : decode cX6_rankedKey 9 = .ok (.ifCond .lt 12, 3) := by decide +kernel
theorem dX6_rankedKey_12 : decode cX6_rankedKey 12 = .ok (.iload_n 3, 1) := by decide +kernel
theorem dX6_rankedKey_13 : decode cX6_rankedKey 13 = .ok (.aload 4, 2) := by decide +kernel
theorem dX6_rankedKey_15 : decode cX6_rankedKey 15 = .ok (.invokevirtual 134, 3) := by decide +kernel
theorem dX6_rankedKey_18 : decode cX6_rankedKey 18 = .ok (.if_icmp .lt 13, 3) := by decide +kernel
theorem dX6_rankedKey_21 : decode cX6_rankedKey 21 = .ok (.new 197, 3) := by decide +kernel
theorem dX6_rankedKey_24 : decode cX6_rankedKey 24 = .ok (.dup, 1) := by decide +kernel
theorem dX6_rankedKey_25 : decode cX6_rankedKey 25 = .ok (.ldc 226, 2) := by decide +kernel
theorem dX6_rankedKey_27 : decode cX6_rankedKey 27 = .ok (.invokespecial 201, 3) := by decide +kernel
theorem dX6_rankedKey_30 : decode cX6_rankedKey 30 = .ok (.athrow, 1) := by decide +kernel
theorem dX6_rankedKey_31 : decode cX6_rankedKey 31 = .ok (.aload 4, 2) := by decide +kernel
theorem dX6_rankedKey_33 : decode cX6_rankedKey 33 = .ok (.iload_n 3, 1) := by decide +kernel
theorem dX6_rankedKey_34 : decode cX6_rankedKey 34 = .ok (.invokevirtual 228, 3) := by decide +kernel
theorem dX6_rankedKey_37 : decode cX6_rankedKey 37 = .ok (.lreturn, 1) := by decide +kernel
set_option maxRecDepth 20000 in
theorem ggX6_rowOfHeads_J9_floorMod_f86c9 : GoodIn wsX6_rowOfHeads wsJ9_floorMod_f86c9 := goodIn_r _ [5] (by decide +kernel) (by decide +kernel)
set_option maxRecDepth 20000 in
theorem gX6_rowOfHeads_J9_floorMod_f86c9 : GoodIn wsX6_rowOfHeads (va_wsS RX6 234 yJ9_floorMod_f86c9 wsJ9_floorMod_f86c9) := goodIn_app (goodIn_of _ (by decide +kernel)) ggX6_rowOfHeads_J9_floorMod_f86c9
theorem dX6_rowOfHeads_0 : decode cX6_rowOfHeads 0 = .ok (.lload_n 0, 1) := by decide +kernel
theorem dX6_rowOfHeads_1 : decode cX6_rowOfHeads 1 = .ok (.lneg, 1) := by decide +kernel
theorem dX6_rowOfHeads_2 : decode cX6_rowOfHeads 2 = .ok (.ldc2_w 232, 3) := by decide +kernel
theorem dX6_rowOfHeads_5 : decode cX6_rowOfHeads 5 = .ok (.invokestatic 234, 3) := by decide +kernel
theorem dX6_rowOfHeads_8 : decode cX6_rowOfHeads 8 = .ok (.lreturn, 1) := by decide +kernel
set_option maxRecDepth 20000 in
theorem ggX6_scoreIn_X6_rowOfHeads : GoodIn wsX6_scoreIn wsX6_rowOfHeads := goodIn_r _ [5, 1, 6, 7, 8, 9] (by decide +kernel) (by decide +kernel)
set_option maxRecDepth 20000 in
theorem gX6_scoreIn_X6_rowOfHeads : GoodIn wsX6_scoreIn (va_wsS RX6 240 yX6_rowOfHeads wsX6_rowOfHeads) := goodIn_app (goodIn_of _ (by decide +kernel)) ggX6_scoreIn_X6_rowOfHeads
theorem dX6_scoreIn_0 : decode cX6_scoreIn 0 = .ok (.lload_n 0, 1) := by decide +kernel
theorem dX6_scoreIn_1 : decode cX6_scoreIn 1 = .ok (.lload_n 0, 1) := by decide +kernel
theorem dX6_scoreIn_2 : decode cX6_scoreIn 2 = .ok (.invokestatic 240, 3) := by decide +kernel
theorem dX6_scoreIn_5 : decode cX6_scoreIn 5 = .ok (.ladd, 1) := by decide +kernel
theorem dX6_scoreIn_6 : decode cX6_scoreIn 6 = .ok (.ldc2_w 232, 3) := by decide +kernel
theorem dX6_scoreIn_9 : decode cX6_scoreIn 9 = .ok (.ldiv, 1) := by decide +kernel
theorem dX6_scoreIn_10 : decode cX6_scoreIn 10 = .ok (.l2i, 1) := by decide +kernel
theorem dX6_scoreIn_11 : decode cX6_scoreIn 11 = .ok (.ireturn, 1) := by decide +kernel
set_option maxRecDepth 20000 in
theorem ggX6_headIn_X6_rowOfHeads : GoodIn wsX6_headIn wsX6_rowOfHeads := goodIn_r _ [5, 6, 7, 8, 9, 10] (by decide +kernel) (by decide +kernel)
set_option maxRecDepth 20000 in
theorem gX6_headIn_X6_rowOfHeads : GoodIn wsX6_headIn (va_wsS RX6 240 yX6_rowOfHeads wsX6_rowOfHeads) := goodIn_app (goodIn_of _ (by decide +kernel)) ggX6_headIn_X6_rowOfHeads
theorem dX6_headIn_0 : decode cX6_headIn 0 = .ok (.lload_n 0, 1) := by decide +kernel
theorem dX6_headIn_1 : decode cX6_headIn 1 = .ok (.invokestatic 240, 3) := by decide +kernel
theorem dX6_headIn_4 : decode cX6_headIn 4 = .ok (.lstore_n 3, 1) := by decide +kernel
theorem dX6_headIn_5 : decode cX6_headIn 5 = .ok (.bipush 6, 2) := by decide +kernel
theorem dX6_headIn_7 : decode cX6_headIn 7 = .ok (.istore 5, 2) := by decide +kernel
theorem dX6_headIn_9 : decode cX6_headIn 9 = .ok (.iload 5, 2) := by decide +kernel
theorem dX6_headIn_11 : decode cX6_headIn 11 = .ok (.iload_n 2, 1) := by decide +kernel
theorem dX6_headIn_12 : decode cX6_headIn 12 = .ok (.if_icmp .le 15, 3) := by decide +kernel
theorem dX6_headIn_15 : decode cX6_headIn 15 = .ok (.lload_n 3, 1) := by decide +kernel
theorem dX6_headIn_16 : decode cX6_headIn 16 = .ok (.ldc2_w 244, 3) := by decide +kernel
theorem dX6_headIn_19 : decode cX6_headIn 19 = .ok (.ldiv, 1) := by decide +kernel
theorem dX6_headIn_20 : decode cX6_headIn 20 = .ok (.lstore_n 3, 1) := by decide +kernel
theorem dX6_headIn_21 : decode cX6_headIn 21 = .ok (.iinc 5 (-1), 3) := by decide +kernel
theorem dX6_headIn_24 : decode cX6_headIn 24 = .ok (.goto (-15), 3) := by decide +kernel
theorem dX6_headIn_27 : decode cX6_headIn 27 = .ok (.lload_n 3, 1) := by decide +kernel
theorem dX6_headIn_28 : decode cX6_headIn 28 = .ok (.ldc2_w 244, 3) := by decide +kernel
theorem dX6_headIn_31 : decode cX6_headIn 31 = .ok (.lrem, 1) := by decide +kernel
theorem dX6_headIn_32 : decode cX6_headIn 32 = .ok (.l2i, 1) := by decide +kernel
theorem dX6_headIn_33 : decode cX6_headIn 33 = .ok (.ireturn, 1) := by decide +kernel
theorem dX6_byDistance_0 : decode cX6_byDistance 0 = .ok (.iload_n 0, 1) := by decide +kernel
theorem dX6_byDistance_1 : decode cX6_byDistance 1 = .ok (.iload_n 1, 1) := by decide +kernel
theorem dX6_byDistance_2 : decode cX6_byDistance 2 = .ok (.isub, 1) := by decide +kernel
theorem dX6_byDistance_3 : decode cX6_byDistance 3 = .ok (.invokestatic 246, 3) := by decide +kernel
theorem dX6_byDistance_6 : decode cX6_byDistance 6 = .ok (.istore_n 2, 1) := by decide +kernel
theorem dX6_byDistance_7 : decode cX6_byDistance 7 = .ok (.bipush 20, 2) := by decide +kernel
theorem dX6_byDistance_9 : decode cX6_byDistance 9 = .ok (.iconst 2, 1) := by decide +kernel
theorem dX6_byDistance_10 : decode cX6_byDistance 10 = .ok (.iconst 4, 1) := by decide +kernel
theorem dX6_byDistance_11 : decode cX6_byDistance 11 = .ok (.iload_n 2, 1) := by decide +kernel
theorem dX6_byDistance_12 : decode cX6_byDistance 12 = .ok (.invokestatic 249, 3) := by decide +kernel
theorem dX6_byDistance_15 : decode cX6_byDistance 15 = .ok (.imul, 1) := by decide +kernel
theorem dX6_byDistance_16 : decode cX6_byDistance 16 = .ok (.iadd, 1) := by decide +kernel
theorem dX6_byDistance_17 : decode cX6_byDistance 17 = .ok (.iconst 2, 1) := by decide +kernel
theorem dX6_byDistance_18 : decode cX6_byDistance 18 = .ok (.isub, 1) := by decide +kernel
theorem dX6_byDistance_19 : decode cX6_byDistance 19 = .ok (.iload_n 0, 1) := by decide +kernel
theorem dX6_byDistance_20 : decode cX6_byDistance 20 = .ok (.iload_n 1, 1) := by decide +kernel
theorem dX6_byDistance_21 : decode cX6_byDistance 21 = .ok (.if_icmp .le 7, 3) := by decide +kernel
theorem dX6_byDistance_24 : decode cX6_byDistance 24 = .ok (.iconst 1, 1) := by decide +kernel
theorem dX6_byDistance_25 : decode cX6_byDistance 25 = .ok (.goto 4, 3) := by decide +kernel
theorem dX6_byDistance_28 : decode cX6_byDistance 28 = .ok (.iconst 0, 1) := by decide +kernel
theorem dX6_byDistance_29 : decode cX6_byDistance 29 = .ok (.iadd, 1) := by decide +kernel
theorem dX6_byDistance_30 : decode cX6_byDistance 30 = .ok (.ireturn, 1) := by decide +kernel
theorem dX6_doCross_0 : decode cX6_doCross 0 = .ok (.iload_n 0, 1) := by decide +kernel
theorem dX6_doCross_1 : decode cX6_doCross 1 = .ok (.iload_n 1, 1) := by decide +kernel
theorem dX6_doCross_2 : decode cX6_doCross 2 = .ok (.invokestatic 249, 3) := by decide +kernel
theorem dX6_doCross_5 : decode cX6_doCross 5 = .ok (.istore 4, 2) := by decide +kernel
theorem dX6_doCross_7 : decode cX6_doCross 7 = .ok (.iload_n 0, 1) := by decide +kernel
theorem dX6_doCross_8 : decode cX6_doCross 8 = .ok (.iload_n 1, 1) := by decide +kernel
theorem dX6_doCross_9 : decode cX6_doCross 9 = .ok (.invokestatic 252, 3) := by decide +kernel
theorem dX6_doCross_12 : decode cX6_doCross 12 = .ok (.istore 5, 2) := by decide +kernel
theorem dX6_doCross_14 : decode cX6_doCross 14 = .ok (.iload_n 2, 1) := by decide +kernel
theorem dX6_doCross_15 : decode cX6_doCross 15 = .ok (.iload_n 3, 1) := by decide +kernel
theorem dX6_doCross_16 : decode cX6_doCross 16 = .ok (.invokestatic 249, 3) := by decide +kernel
theorem dX6_doCross_19 : decode cX6_doCross 19 = .ok (.istore 6, 2) := by decide +kernel
theorem dX6_doCross_21 : decode cX6_doCross 21 = .ok (.iload_n 2, 1) := by decide +kernel
theorem dX6_doCross_22 : decode cX6_doCross 22 = .ok (.iload_n 3, 1) := by decide +kernel
theorem dX6_doCross_23 : decode cX6_doCross 23 = .ok (.invokestatic 252, 3) := by decide +kernel
theorem dX6_doCross_26 : decode cX6_doCross 26 = .ok (.istore 7, 2) := by decide +kernel
theorem dX6_doCross_28 : decode cX6_doCross 28 = .ok (.iload 4, 2) := by decide +kernel
theorem dX6_doCross_30 : decode cX6_doCross 30 = .ok (.iload 6, 2) := by decide +kernel
theorem dX6_doCross_32 : decode cX6_doCross 32 = .ok (.if_icmp .ge 17, 3) := by decide +kernel
theorem dX6_doCross_35 : decode cX6_doCross 35 = .ok (.iload 6, 2) := by decide +kernel
theorem dX6_doCross_37 : decode cX6_doCross 37 = .ok (.iload 5, 2) := by decide +kernel
theorem dX6_doCross_39 : decode cX6_doCross 39 = .ok (.if_icmp .ge 10, 3) := by decide +kernel
theorem dX6_doCross_42 : decode cX6_doCross 42 = .ok (.iload 5, 2) := by decide +kernel
theorem dX6_doCross_44 : decode cX6_doCross 44 = .ok (.iload 7, 2) := by decide +kernel
theorem dX6_doCross_46 : decode cX6_doCross 46 = .ok (.if_icmp .lt 24, 3) := by decide +kernel
theorem dX6_doCross_49 : decode cX6_doCross 49 = .ok (.iload 6, 2) := by decide +kernel
theorem dX6_doCross_51 : decode cX6_doCross 51 = .ok (.iload 4, 2) := by decide +kernel
theorem dX6_doCross_53 : decode cX6_doCross 53 = .ok (.if_icmp .ge 21, 3) := by decide +kernel
theorem dX6_doCross_56 : decode cX6_doCross 56 = .ok (.iload 4, 2) := by decide +kernel
theorem dX6_doCross_58 : decode cX6_doCross 58 = .ok (.iload 7, 2) := by decide +kernel
theorem dX6_doCross_60 : decode cX6_doCross 60 = .ok (.if_icmp .ge 14, 3) := by decide +kernel
theorem dX6_doCross_63 : decode cX6_doCross 63 = .ok (.iload 7, 2) := by decide +kernel
theorem dX6_doCross_65 : decode cX6_doCross 65 = .ok (.iload 5, 2) := by decide +kernel
theorem dX6_doCross_67 : decode cX6_doCross 67 = .ok (.if_icmp .ge 7, 3) := by decide +kernel
theorem dX6_doCross_70 : decode cX6_doCross 70 = .ok (.iconst 1, 1) := by decide +kernel
theorem dX6_doCross_71 : decode cX6_doCross 71 = .ok (.goto 4, 3) := by decide +kernel
theorem dX6_doCross_74 : decode cX6_doCross 74 = .ok (.iconst 0, 1) := by decide +kernel
theorem dX6_doCross_75 : decode cX6_doCross 75 = .ok (.ireturn, 1) := by decide +kernel
theorem dX6_isPlace_0 : decode cX6_isPlace 0 = .ok (.iload_n 0, 1) := by decide +kernel
theorem dX6_isPlace_1 : decode cX6_isPlace 1 = .ok (.ifCond .lt 13, 3) := by decide +kernel
theorem dX6_isPlace_4 : decode cX6_isPlace 4 = .ok (.iload_n 0, 1) := by decide +kernel
theorem dX6_isPlace_5 : decode cX6_isPlace 5 = .ok (.bipush 7, 2) := by decide +kernel
theorem dX6_isPlace_7 : decode cX6_isPlace 7 = .ok (.if_icmp .ge 7, 3) := by decide +kernel
theorem dX6_isPlace_10 : decode cX6_isPlace 10 = .ok (.iconst 1, 1) := by decide +kernel
theorem dX6_isPlace_11 : decode cX6_isPlace 11 = .ok (.goto 4, 3) := by decide +kernel
theorem dX6_isPlace_14 : decode cX6_isPlace 14 = .ok (.iconst 0, 1) := by decide +kernel
theorem dX6_isPlace_15 : decode cX6_isPlace 15 = .ok (.ireturn, 1) := by decide +kernel

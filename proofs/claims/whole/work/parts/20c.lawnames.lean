theorem dL_addSentence_0 : decode cL_addSentence 0 = .ok (.aload_n 1, 1) := by decide +kernel
theorem dL_addSentence_1 : decode cL_addSentence 1 = .ok (.iconst 0, 1) := by decide +kernel
theorem dL_addSentence_2 : decode cL_addSentence 2 = .ok (.aload_n 0, 1) := by decide +kernel
theorem dL_addSentence_3 : decode cL_addSentence 3 = .ok (.invokevirtual 7, 3) := by decide +kernel
theorem dL_addSentence_6 : decode cL_addSentence 6 = .ok (.i2l, 1) := by decide +kernel
theorem dL_addSentence_7 : decode cL_addSentence 7 = .ok (.lastore, 1) := by decide +kernel
theorem dL_addSentence_8 : decode cL_addSentence 8 = .ok (.goto 6, 3) := by decide +kernel
theorem dL_addSentence_11 : decode cL_addSentence 11 = .ok (.astore_n 2, 1) := by decide +kernel
theorem dL_addSentence_12 : decode cL_addSentence 12 = .ok (.iconst 1, 1) := by decide +kernel
theorem dL_addSentence_13 : decode cL_addSentence 13 = .ok (.ireturn, 1) := by decide +kernel
theorem dL_addSentence_14 : decode cL_addSentence 14 = .ok (.iconst 0, 1) := by decide +kernel
theorem dL_addSentence_15 : decode cL_addSentence 15 = .ok (.ireturn, 1) := by decide +kernel
theorem dL_addWord_0 : decode cL_addWord 0 = .ok (.aload_n 3, 1) := by decide +kernel
theorem dL_addWord_1 : decode cL_addWord 1 = .ok (.iconst 0, 1) := by decide +kernel
theorem dL_addWord_2 : decode cL_addWord 2 = .ok (.aload_n 0, 1) := by decide +kernel
theorem dL_addWord_3 : decode cL_addWord 3 = .ok (.iload_n 1, 1) := by decide +kernel
theorem dL_addWord_4 : decode cL_addWord 4 = .ok (.iload_n 2, 1) := by decide +kernel
theorem dL_addWord_5 : decode cL_addWord 5 = .ok (.invokevirtual 15, 3) := by decide +kernel
theorem dL_addWord_8 : decode cL_addWord 8 = .ok (.i2l, 1) := by decide +kernel
theorem dL_addWord_9 : decode cL_addWord 9 = .ok (.lastore, 1) := by decide +kernel
theorem dL_addWord_10 : decode cL_addWord 10 = .ok (.goto 15, 3) := by decide +kernel
theorem dL_addWord_13 : decode cL_addWord 13 = .ok (.astore 4, 2) := by decide +kernel
theorem dL_addWord_15 : decode cL_addWord 15 = .ok (.iconst 1, 1) := by decide +kernel
theorem dL_addWord_16 : decode cL_addWord 16 = .ok (.ireturn, 1) := by decide +kernel
theorem dL_addWord_17 : decode cL_addWord 17 = .ok (.astore 4, 2) := by decide +kernel
theorem dL_addWord_19 : decode cL_addWord 19 = .ok (.iconst 2, 1) := by decide +kernel
theorem dL_addWord_20 : decode cL_addWord 20 = .ok (.ireturn, 1) := by decide +kernel
theorem dL_addWord_21 : decode cL_addWord 21 = .ok (.astore 4, 2) := by decide +kernel
theorem dL_addWord_23 : decode cL_addWord 23 = .ok (.iconst 3, 1) := by decide +kernel
theorem dL_addWord_24 : decode cL_addWord 24 = .ok (.ireturn, 1) := by decide +kernel
theorem dL_addWord_25 : decode cL_addWord 25 = .ok (.iconst 0, 1) := by decide +kernel
theorem dL_addWord_26 : decode cL_addWord 26 = .ok (.ireturn, 1) := by decide +kernel
theorem dL_words_0 : decode cL_words 0 = .ok (.aload_n 2, 1) := by decide +kernel
theorem dL_words_1 : decode cL_words 1 = .ok (.iconst 0, 1) := by decide +kernel
theorem dL_words_2 : decode cL_words 2 = .ok (.aload_n 0, 1) := by decide +kernel
theorem dL_words_3 : decode cL_words 3 = .ok (.iload_n 1, 1) := by decide +kernel
theorem dL_words_4 : decode cL_words 4 = .ok (.invokevirtual 23, 3) := by decide +kernel
theorem dL_words_7 : decode cL_words 7 = .ok (.i2l, 1) := by decide +kernel
theorem dL_words_8 : decode cL_words 8 = .ok (.lastore, 1) := by decide +kernel
theorem dL_words_9 : decode cL_words 9 = .ok (.goto 6, 3) := by decide +kernel
theorem dL_words_12 : decode cL_words 12 = .ok (.astore_n 3, 1) := by decide +kernel
theorem dL_words_13 : decode cL_words 13 = .ok (.iconst 1, 1) := by decide +kernel
theorem dL_words_14 : decode cL_words 14 = .ok (.ireturn, 1) := by decide +kernel
theorem dL_words_15 : decode cL_words 15 = .ok (.iconst 0, 1) := by decide +kernel
theorem dL_words_16 : decode cL_words 16 = .ok (.ireturn, 1) := by decide +kernel
theorem dL_kind_0 : decode cL_kind 0 = .ok (.aload_n 3, 1) := by decide +kernel
theorem dL_kind_1 : decode cL_kind 1 = .ok (.iconst 0, 1) := by decide +kernel
theorem dL_kind_2 : decode cL_kind 2 = .ok (.aload_n 0, 1) := by decide +kernel
theorem dL_kind_3 : decode cL_kind 3 = .ok (.iload_n 1, 1) := by decide +kernel
theorem dL_kind_4 : decode cL_kind 4 = .ok (.iload_n 2, 1) := by decide +kernel
theorem dL_kind_5 : decode cL_kind 5 = .ok (.invokevirtual 27, 3) := by decide +kernel
theorem dL_kind_8 : decode cL_kind 8 = .ok (.i2l, 1) := by decide +kernel
theorem dL_kind_9 : decode cL_kind 9 = .ok (.lastore, 1) := by decide +kernel
theorem dL_kind_10 : decode cL_kind 10 = .ok (.goto 7, 3) := by decide +kernel
theorem dL_kind_13 : decode cL_kind 13 = .ok (.astore 4, 2) := by decide +kernel
theorem dL_kind_15 : decode cL_kind 15 = .ok (.iconst 1, 1) := by decide +kernel
theorem dL_kind_16 : decode cL_kind 16 = .ok (.ireturn, 1) := by decide +kernel
theorem dL_kind_17 : decode cL_kind 17 = .ok (.iconst 0, 1) := by decide +kernel
theorem dL_kind_18 : decode cL_kind 18 = .ok (.ireturn, 1) := by decide +kernel
theorem dL_setWeight_0 : decode cL_setWeight 0 = .ok (.aload_n 3, 1) := by decide +kernel
theorem dL_setWeight_1 : decode cL_setWeight 1 = .ok (.iconst 0, 1) := by decide +kernel
theorem dL_setWeight_2 : decode cL_setWeight 2 = .ok (.aload_n 0, 1) := by decide +kernel
theorem dL_setWeight_3 : decode cL_setWeight 3 = .ok (.iload_n 1, 1) := by decide +kernel
theorem dL_setWeight_4 : decode cL_setWeight 4 = .ok (.iload_n 2, 1) := by decide +kernel
theorem dL_setWeight_5 : decode cL_setWeight 5 = .ok (.invokevirtual 30, 3) := by decide +kernel
theorem dL_setWeight_8 : decode cL_setWeight 8 = .ok (.i2l, 1) := by decide +kernel
theorem dL_setWeight_9 : decode cL_setWeight 9 = .ok (.lastore, 1) := by decide +kernel
theorem dL_setWeight_10 : decode cL_setWeight 10 = .ok (.goto 11, 3) := by decide +kernel
theorem dL_setWeight_13 : decode cL_setWeight 13 = .ok (.astore 4, 2) := by decide +kernel
theorem dL_setWeight_15 : decode cL_setWeight 15 = .ok (.iconst 1, 1) := by decide +kernel
theorem dL_setWeight_16 : decode cL_setWeight 16 = .ok (.ireturn, 1) := by decide +kernel
theorem dL_setWeight_17 : decode cL_setWeight 17 = .ok (.astore 4, 2) := by decide +kernel
theorem dL_setWeight_19 : decode cL_setWeight 19 = .ok (.iconst 2, 1) := by decide +kernel
theorem dL_setWeight_20 : decode cL_setWeight 20 = .ok (.ireturn, 1) := by decide +kernel
theorem dL_setWeight_21 : decode cL_setWeight 21 = .ok (.iconst 0, 1) := by decide +kernel
theorem dL_setWeight_22 : decode cL_setWeight 22 = .ok (.ireturn, 1) := by decide +kernel
theorem dL_weight_0 : decode cL_weight 0 = .ok (.aload_n 2, 1) := by decide +kernel
theorem dL_weight_1 : decode cL_weight 1 = .ok (.iconst 0, 1) := by decide +kernel
theorem dL_weight_2 : decode cL_weight 2 = .ok (.aload_n 0, 1) := by decide +kernel
theorem dL_weight_3 : decode cL_weight 3 = .ok (.iload_n 1, 1) := by decide +kernel
theorem dL_weight_4 : decode cL_weight 4 = .ok (.invokevirtual 33, 3) := by decide +kernel
theorem dL_weight_7 : decode cL_weight 7 = .ok (.i2l, 1) := by decide +kernel
theorem dL_weight_8 : decode cL_weight 8 = .ok (.lastore, 1) := by decide +kernel
theorem dL_weight_9 : decode cL_weight 9 = .ok (.goto 6, 3) := by decide +kernel
theorem dL_weight_12 : decode cL_weight 12 = .ok (.astore_n 3, 1) := by decide +kernel
theorem dL_weight_13 : decode cL_weight 13 = .ok (.iconst 1, 1) := by decide +kernel
theorem dL_weight_14 : decode cL_weight 14 = .ok (.ireturn, 1) := by decide +kernel
theorem dL_weight_15 : decode cL_weight 15 = .ok (.iconst 0, 1) := by decide +kernel
theorem dL_weight_16 : decode cL_weight 16 = .ok (.ireturn, 1) := by decide +kernel
theorem dL_feature_0 : decode cL_feature 0 = .ok (.aload 5, 2) := by decide +kernel
theorem dL_feature_2 : decode cL_feature 2 = .ok (.iconst 0, 1) := by decide +kernel
theorem dL_feature_3 : decode cL_feature 3 = .ok (.aload_n 0, 1) := by decide +kernel
theorem dL_feature_4 : decode cL_feature 4 = .ok (.iload_n 1, 1) := by decide +kernel
theorem dL_feature_5 : decode cL_feature 5 = .ok (.iload_n 2, 1) := by decide +kernel
theorem dL_feature_6 : decode cL_feature 6 = .ok (.iload_n 3, 1) := by decide +kernel
theorem dL_feature_7 : decode cL_feature 7 = .ok (.iload 4, 2) := by decide +kernel
theorem dL_feature_9 : decode cL_feature 9 = .ok (.invokevirtual 36, 3) := by decide +kernel
theorem dL_feature_12 : decode cL_feature 12 = .ok (.i2l, 1) := by decide +kernel
theorem dL_feature_13 : decode cL_feature 13 = .ok (.lastore, 1) := by decide +kernel
theorem dL_feature_14 : decode cL_feature 14 = .ok (.goto 11, 3) := by decide +kernel
theorem dL_feature_17 : decode cL_feature 17 = .ok (.astore 6, 2) := by decide +kernel
theorem dL_feature_19 : decode cL_feature 19 = .ok (.iconst 1, 1) := by decide +kernel
theorem dL_feature_20 : decode cL_feature 20 = .ok (.ireturn, 1) := by decide +kernel
theorem dL_feature_21 : decode cL_feature 21 = .ok (.astore 6, 2) := by decide +kernel
theorem dL_feature_23 : decode cL_feature 23 = .ok (.iconst 2, 1) := by decide +kernel
theorem dL_feature_24 : decode cL_feature 24 = .ok (.ireturn, 1) := by decide +kernel
theorem dL_feature_25 : decode cL_feature 25 = .ok (.iconst 0, 1) := by decide +kernel
theorem dL_feature_26 : decode cL_feature 26 = .ok (.ireturn, 1) := by decide +kernel
theorem dL_score_0 : decode cL_score 0 = .ok (.aload 4, 2) := by decide +kernel
theorem dL_score_2 : decode cL_score 2 = .ok (.iconst 0, 1) := by decide +kernel
theorem dL_score_3 : decode cL_score 3 = .ok (.aload_n 0, 1) := by decide +kernel
theorem dL_score_4 : decode cL_score 4 = .ok (.iload_n 1, 1) := by decide +kernel
theorem dL_score_5 : decode cL_score 5 = .ok (.iload_n 2, 1) := by decide +kernel
theorem dL_score_6 : decode cL_score 6 = .ok (.iload_n 3, 1) := by decide +kernel
theorem dL_score_7 : decode cL_score 7 = .ok (.invokevirtual 40, 3) := by decide +kernel
theorem dL_score_10 : decode cL_score 10 = .ok (.i2l, 1) := by decide +kernel
theorem dL_score_11 : decode cL_score 11 = .ok (.lastore, 1) := by decide +kernel
theorem dL_score_12 : decode cL_score 12 = .ok (.goto 11, 3) := by decide +kernel
theorem dL_score_15 : decode cL_score 15 = .ok (.astore 5, 2) := by decide +kernel
theorem dL_score_17 : decode cL_score 17 = .ok (.iconst 1, 1) := by decide +kernel
theorem dL_score_18 : decode cL_score 18 = .ok (.ireturn, 1) := by decide +kernel
theorem dL_score_19 : decode cL_score 19 = .ok (.astore 5, 2) := by decide +kernel
theorem dL_score_21 : decode cL_score 21 = .ok (.iconst 2, 1) := by decide +kernel
theorem dL_score_22 : decode cL_score 22 = .ok (.ireturn, 1) := by decide +kernel
theorem dL_score_23 : decode cL_score 23 = .ok (.iconst 0, 1) := by decide +kernel
theorem dL_score_24 : decode cL_score 24 = .ok (.ireturn, 1) := by decide +kernel
theorem dL_mark_0 : decode cL_mark 0 = .ok (.aload 5, 2) := by decide +kernel
theorem dL_mark_2 : decode cL_mark 2 = .ok (.iconst 0, 1) := by decide +kernel
theorem dL_mark_3 : decode cL_mark 3 = .ok (.aload_n 0, 1) := by decide +kernel
theorem dL_mark_4 : decode cL_mark 4 = .ok (.iload_n 1, 1) := by decide +kernel
theorem dL_mark_5 : decode cL_mark 5 = .ok (.iload_n 2, 1) := by decide +kernel
theorem dL_mark_6 : decode cL_mark 6 = .ok (.iload_n 3, 1) := by decide +kernel
theorem dL_mark_7 : decode cL_mark 7 = .ok (.iload 4, 2) := by decide +kernel
theorem dL_mark_9 : decode cL_mark 9 = .ok (.invokevirtual 44, 3) := by decide +kernel
theorem dL_mark_12 : decode cL_mark 12 = .ok (.i2l, 1) := by decide +kernel
theorem dL_mark_13 : decode cL_mark 13 = .ok (.lastore, 1) := by decide +kernel
theorem dL_mark_14 : decode cL_mark 14 = .ok (.goto 15, 3) := by decide +kernel
theorem dL_mark_17 : decode cL_mark 17 = .ok (.astore 6, 2) := by decide +kernel
theorem dL_mark_19 : decode cL_mark 19 = .ok (.iconst 1, 1) := by decide +kernel
theorem dL_mark_20 : decode cL_mark 20 = .ok (.ireturn, 1) := by decide +kernel
theorem dL_mark_21 : decode cL_mark 21 = .ok (.astore 6, 2) := by decide +kernel
theorem dL_mark_23 : decode cL_mark 23 = .ok (.iconst 2, 1) := by decide +kernel
theorem dL_mark_24 : decode cL_mark 24 = .ok (.ireturn, 1) := by decide +kernel
theorem dL_mark_25 : decode cL_mark 25 = .ok (.astore 6, 2) := by decide +kernel
theorem dL_mark_27 : decode cL_mark 27 = .ok (.iconst 3, 1) := by decide +kernel
theorem dL_mark_28 : decode cL_mark 28 = .ok (.ireturn, 1) := by decide +kernel
theorem dL_mark_29 : decode cL_mark 29 = .ok (.iconst 0, 1) := by decide +kernel
theorem dL_mark_30 : decode cL_mark 30 = .ok (.ireturn, 1) := by decide +kernel
theorem dL_trees_0 : decode cL_trees 0 = .ok (.aload_n 3, 1) := by decide +kernel
theorem dL_trees_1 : decode cL_trees 1 = .ok (.iconst 0, 1) := by decide +kernel
theorem dL_trees_2 : decode cL_trees 2 = .ok (.aload_n 0, 1) := by decide +kernel
theorem dL_trees_3 : decode cL_trees 3 = .ok (.iload_n 1, 1) := by decide +kernel
theorem dL_trees_4 : decode cL_trees 4 = .ok (.iload_n 2, 1) := by decide +kernel
theorem dL_trees_5 : decode cL_trees 5 = .ok (.invokevirtual 48, 3) := by decide +kernel
theorem dL_trees_8 : decode cL_trees 8 = .ok (.i2l, 1) := by decide +kernel
theorem dL_trees_9 : decode cL_trees 9 = .ok (.lastore, 1) := by decide +kernel
theorem dL_trees_10 : decode cL_trees 10 = .ok (.goto 7, 3) := by decide +kernel
theorem dL_trees_13 : decode cL_trees 13 = .ok (.astore 4, 2) := by decide +kernel
theorem dL_trees_15 : decode cL_trees 15 = .ok (.iconst 1, 1) := by decide +kernel
theorem dL_trees_16 : decode cL_trees 16 = .ok (.ireturn, 1) := by decide +kernel
theorem dL_trees_17 : decode cL_trees 17 = .ok (.iconst 0, 1) := by decide +kernel
theorem dL_trees_18 : decode cL_trees 18 = .ok (.ireturn, 1) := by decide +kernel
theorem dL_best_0 : decode cL_best 0 = .ok (.aload_n 3, 1) := by decide +kernel
theorem dL_best_1 : decode cL_best 1 = .ok (.iconst 0, 1) := by decide +kernel
theorem dL_best_2 : decode cL_best 2 = .ok (.aload_n 0, 1) := by decide +kernel
theorem dL_best_3 : decode cL_best 3 = .ok (.iload_n 1, 1) := by decide +kernel
theorem dL_best_4 : decode cL_best 4 = .ok (.iload_n 2, 1) := by decide +kernel
theorem dL_best_5 : decode cL_best 5 = .ok (.invokevirtual 52, 3) := by decide +kernel
theorem dL_best_8 : decode cL_best 8 = .ok (.i2l, 1) := by decide +kernel
theorem dL_best_9 : decode cL_best 9 = .ok (.lastore, 1) := by decide +kernel
theorem dL_best_10 : decode cL_best 10 = .ok (.goto 11, 3) := by decide +kernel
theorem dL_best_13 : decode cL_best 13 = .ok (.astore 4, 2) := by decide +kernel
theorem dL_best_15 : decode cL_best 15 = .ok (.iconst 1, 1) := by decide +kernel
theorem dL_best_16 : decode cL_best 16 = .ok (.ireturn, 1) := by decide +kernel
theorem dL_best_17 : decode cL_best 17 = .ok (.astore 4, 2) := by decide +kernel
theorem dL_best_19 : decode cL_best 19 = .ok (.iconst 2, 1) := by decide +kernel
theorem dL_best_20 : decode cL_best 20 = .ok (.ireturn, 1) := by decide +kernel
theorem dL_best_21 : decode cL_best 21 = .ok (.iconst 0, 1) := by decide +kernel
theorem dL_best_22 : decode cL_best 22 = .ok (.ireturn, 1) := by decide +kernel
theorem dL_bestByTrying_0 : decode cL_bestByTrying 0 = .ok (.aload_n 3, 1) := by decide +kernel
theorem dL_bestByTrying_1 : decode cL_bestByTrying 1 = .ok (.iconst 0, 1) := by decide +kernel
theorem dL_bestByTrying_2 : decode cL_bestByTrying 2 = .ok (.aload_n 0, 1) := by decide +kernel
theorem dL_bestByTrying_3 : decode cL_bestByTrying 3 = .ok (.iload_n 1, 1) := by decide +kernel
theorem dL_bestByTrying_4 : decode cL_bestByTrying 4 = .ok (.iload_n 2, 1) := by decide +kernel
theorem dL_bestByTrying_5 : decode cL_bestByTrying 5 = .ok (.invokevirtual 55, 3) := by decide +kernel
theorem dL_bestByTrying_8 : decode cL_bestByTrying 8 = .ok (.i2l, 1) := by decide +kernel
theorem dL_bestByTrying_9 : decode cL_bestByTrying 9 = .ok (.lastore, 1) := by decide +kernel
theorem dL_bestByTrying_10 : decode cL_bestByTrying 10 = .ok (.goto 11, 3) := by decide +kernel
theorem dL_bestByTrying_13 : decode cL_bestByTrying 13 = .ok (.astore 4, 2) := by decide +kernel
theorem dL_bestByTrying_15 : decode cL_bestByTrying 15 = .ok (.iconst 1, 1) := by decide +kernel
theorem dL_bestByTrying_16 : decode cL_bestByTrying 16 = .ok (.ireturn, 1) := by decide +kernel
theorem dL_bestByTrying_17 : decode cL_bestByTrying 17 = .ok (.astore 4, 2) := by decide +kernel
theorem dL_bestByTrying_19 : decode cL_bestByTrying 19 = .ok (.iconst 2, 1) := by decide +kernel
theorem dL_bestByTrying_20 : decode cL_bestByTrying 20 = .ok (.ireturn, 1) := by decide +kernel
theorem dL_bestByTrying_21 : decode cL_bestByTrying 21 = .ok (.iconst 0, 1) := by decide +kernel
theorem dL_bestByTrying_22 : decode cL_bestByTrying 22 = .ok (.ireturn, 1) := by decide +kernel
theorem dL_head_0 : decode cL_head 0 = .ok (.aload 4, 2) := by decide +kernel
theorem dL_head_2 : decode cL_head 2 = .ok (.iconst 0, 1) := by decide +kernel
theorem dL_head_3 : decode cL_head 3 = .ok (.aload_n 0, 1) := by decide +kernel
theorem dL_head_4 : decode cL_head 4 = .ok (.iload_n 1, 1) := by decide +kernel
theorem dL_head_5 : decode cL_head 5 = .ok (.iload_n 2, 1) := by decide +kernel
theorem dL_head_6 : decode cL_head 6 = .ok (.iload_n 3, 1) := by decide +kernel
theorem dL_head_7 : decode cL_head 7 = .ok (.invokevirtual 58, 3) := by decide +kernel
theorem dL_head_10 : decode cL_head 10 = .ok (.i2l, 1) := by decide +kernel
theorem dL_head_11 : decode cL_head 11 = .ok (.lastore, 1) := by decide +kernel
theorem dL_head_12 : decode cL_head 12 = .ok (.goto 11, 3) := by decide +kernel
theorem dL_head_15 : decode cL_head 15 = .ok (.astore 5, 2) := by decide +kernel
theorem dL_head_17 : decode cL_head 17 = .ok (.iconst 1, 1) := by decide +kernel
theorem dL_head_18 : decode cL_head 18 = .ok (.ireturn, 1) := by decide +kernel
theorem dL_head_19 : decode cL_head 19 = .ok (.astore 5, 2) := by decide +kernel
theorem dL_head_21 : decode cL_head 21 = .ok (.iconst 2, 1) := by decide +kernel
theorem dL_head_22 : decode cL_head 22 = .ok (.ireturn, 1) := by decide +kernel
theorem dL_head_23 : decode cL_head 23 = .ok (.iconst 0, 1) := by decide +kernel
theorem dL_head_24 : decode cL_head 24 = .ok (.ireturn, 1) := by decide +kernel
theorem dL_crossings_0 : decode cL_crossings 0 = .ok (.aload_n 2, 1) := by decide +kernel
theorem dL_crossings_1 : decode cL_crossings 1 = .ok (.iconst 0, 1) := by decide +kernel
theorem dL_crossings_2 : decode cL_crossings 2 = .ok (.aload_n 0, 1) := by decide +kernel
theorem dL_crossings_3 : decode cL_crossings 3 = .ok (.iload_n 1, 1) := by decide +kernel
theorem dL_crossings_4 : decode cL_crossings 4 = .ok (.invokevirtual 62, 3) := by decide +kernel
theorem dL_crossings_7 : decode cL_crossings 7 = .ok (.i2l, 1) := by decide +kernel
theorem dL_crossings_8 : decode cL_crossings 8 = .ok (.lastore, 1) := by decide +kernel
theorem dL_crossings_9 : decode cL_crossings 9 = .ok (.goto 9, 3) := by decide +kernel
theorem dL_crossings_12 : decode cL_crossings 12 = .ok (.astore_n 3, 1) := by decide +kernel
theorem dL_crossings_13 : decode cL_crossings 13 = .ok (.iconst 1, 1) := by decide +kernel
theorem dL_crossings_14 : decode cL_crossings 14 = .ok (.ireturn, 1) := by decide +kernel
theorem dL_crossings_15 : decode cL_crossings 15 = .ok (.astore_n 3, 1) := by decide +kernel
theorem dL_crossings_16 : decode cL_crossings 16 = .ok (.iconst 2, 1) := by decide +kernel
theorem dL_crossings_17 : decode cL_crossings 17 = .ok (.ireturn, 1) := by decide +kernel
theorem dL_crossings_18 : decode cL_crossings 18 = .ok (.iconst 0, 1) := by decide +kernel
theorem dL_crossings_19 : decode cL_crossings 19 = .ok (.ireturn, 1) := by decide +kernel
theorem dL_ranked_0 : decode cL_ranked 0 = .ok (.aload 4, 2) := by decide +kernel
theorem dL_ranked_2 : decode cL_ranked 2 = .ok (.iconst 0, 1) := by decide +kernel
theorem dL_ranked_3 : decode cL_ranked 3 = .ok (.aload_n 0, 1) := by decide +kernel
theorem dL_ranked_4 : decode cL_ranked 4 = .ok (.iload_n 1, 1) := by decide +kernel
theorem dL_ranked_5 : decode cL_ranked 5 = .ok (.iload_n 2, 1) := by decide +kernel
theorem dL_ranked_6 : decode cL_ranked 6 = .ok (.iload_n 3, 1) := by decide +kernel
theorem dL_ranked_7 : decode cL_ranked 7 = .ok (.invokevirtual 65, 3) := by decide +kernel
theorem dL_ranked_10 : decode cL_ranked 10 = .ok (.i2l, 1) := by decide +kernel
theorem dL_ranked_11 : decode cL_ranked 11 = .ok (.lastore, 1) := by decide +kernel
theorem dL_ranked_12 : decode cL_ranked 12 = .ok (.goto 7, 3) := by decide +kernel
theorem dL_ranked_15 : decode cL_ranked 15 = .ok (.astore 5, 2) := by decide +kernel
theorem dL_ranked_17 : decode cL_ranked 17 = .ok (.iconst 1, 1) := by decide +kernel
theorem dL_ranked_18 : decode cL_ranked 18 = .ok (.ireturn, 1) := by decide +kernel
theorem dL_ranked_19 : decode cL_ranked 19 = .ok (.iconst 0, 1) := by decide +kernel
theorem dL_ranked_20 : decode cL_ranked 20 = .ok (.ireturn, 1) := by decide +kernel
theorem dL_rankedHead_0 : decode cL_rankedHead 0 = .ok (.aload 5, 2) := by decide +kernel
theorem dL_rankedHead_2 : decode cL_rankedHead 2 = .ok (.iconst 0, 1) := by decide +kernel
theorem dL_rankedHead_3 : decode cL_rankedHead 3 = .ok (.aload_n 0, 1) := by decide +kernel
theorem dL_rankedHead_4 : decode cL_rankedHead 4 = .ok (.iload_n 1, 1) := by decide +kernel
theorem dL_rankedHead_5 : decode cL_rankedHead 5 = .ok (.iload_n 2, 1) := by decide +kernel
theorem dL_rankedHead_6 : decode cL_rankedHead 6 = .ok (.iload_n 3, 1) := by decide +kernel
theorem dL_rankedHead_7 : decode cL_rankedHead 7 = .ok (.iload 4, 2) := by decide +kernel
theorem dL_rankedHead_9 : decode cL_rankedHead 9 = .ok (.invokevirtual 68, 3) := by decide +kernel
theorem dL_rankedHead_12 : decode cL_rankedHead 12 = .ok (.i2l, 1) := by decide +kernel
theorem dL_rankedHead_13 : decode cL_rankedHead 13 = .ok (.lastore, 1) := by decide +kernel
theorem dL_rankedHead_14 : decode cL_rankedHead 14 = .ok (.goto 7, 3) := by decide +kernel
theorem dL_rankedHead_17 : decode cL_rankedHead 17 = .ok (.astore 6, 2) := by decide +kernel
theorem dL_rankedHead_19 : decode cL_rankedHead 19 = .ok (.iconst 1, 1) := by decide +kernel
theorem dL_rankedHead_20 : decode cL_rankedHead 20 = .ok (.ireturn, 1) := by decide +kernel
theorem dL_rankedHead_21 : decode cL_rankedHead 21 = .ok (.iconst 0, 1) := by decide +kernel
theorem dL_rankedHead_22 : decode cL_rankedHead 22 = .ok (.ireturn, 1) := by decide +kernel
theorem dL_correct_0 : decode cL_correct 0 = .ok (.aload 4, 2) := by decide +kernel
theorem dL_correct_2 : decode cL_correct 2 = .ok (.iconst 0, 1) := by decide +kernel
theorem dL_correct_3 : decode cL_correct 3 = .ok (.aload_n 0, 1) := by decide +kernel
theorem dL_correct_4 : decode cL_correct 4 = .ok (.iload_n 1, 1) := by decide +kernel
theorem dL_correct_5 : decode cL_correct 5 = .ok (.iload_n 2, 1) := by decide +kernel
theorem dL_correct_6 : decode cL_correct 6 = .ok (.iload_n 3, 1) := by decide +kernel
theorem dL_correct_7 : decode cL_correct 7 = .ok (.invokevirtual 72, 3) := by decide +kernel
theorem dL_correct_10 : decode cL_correct 10 = .ok (.i2l, 1) := by decide +kernel
theorem dL_correct_11 : decode cL_correct 11 = .ok (.lastore, 1) := by decide +kernel
theorem dL_correct_12 : decode cL_correct 12 = .ok (.goto 11, 3) := by decide +kernel
theorem dL_correct_15 : decode cL_correct 15 = .ok (.astore 5, 2) := by decide +kernel
theorem dL_correct_17 : decode cL_correct 17 = .ok (.iconst 1, 1) := by decide +kernel
theorem dL_correct_18 : decode cL_correct 18 = .ok (.ireturn, 1) := by decide +kernel
theorem dL_correct_19 : decode cL_correct 19 = .ok (.astore 5, 2) := by decide +kernel
theorem dL_correct_21 : decode cL_correct 21 = .ok (.iconst 2, 1) := by decide +kernel
theorem dL_correct_22 : decode cL_correct 22 = .ok (.ireturn, 1) := by decide +kernel
theorem dL_correct_23 : decode cL_correct 23 = .ok (.iconst 0, 1) := by decide +kernel
theorem dL_correct_24 : decode cL_correct 24 = .ok (.ireturn, 1) := by decide +kernel
theorem dL_matched_0 : decode cL_matched 0 = .ok (.aload_n 2, 1) := by decide +kernel
theorem dL_matched_1 : decode cL_matched 1 = .ok (.iconst 0, 1) := by decide +kernel
theorem dL_matched_2 : decode cL_matched 2 = .ok (.aload_n 0, 1) := by decide +kernel
theorem dL_matched_3 : decode cL_matched 3 = .ok (.iload_n 1, 1) := by decide +kernel
theorem dL_matched_4 : decode cL_matched 4 = .ok (.invokevirtual 75, 3) := by decide +kernel
theorem dL_matched_7 : decode cL_matched 7 = .ok (.i2l, 1) := by decide +kernel
theorem dL_matched_8 : decode cL_matched 8 = .ok (.lastore, 1) := by decide +kernel
theorem dL_matched_9 : decode cL_matched 9 = .ok (.goto 9, 3) := by decide +kernel
theorem dL_matched_12 : decode cL_matched 12 = .ok (.astore_n 3, 1) := by decide +kernel
theorem dL_matched_13 : decode cL_matched 13 = .ok (.iconst 1, 1) := by decide +kernel
theorem dL_matched_14 : decode cL_matched 14 = .ok (.ireturn, 1) := by decide +kernel
theorem dL_matched_15 : decode cL_matched 15 = .ok (.astore_n 3, 1) := by decide +kernel
theorem dL_matched_16 : decode cL_matched 16 = .ok (.iconst 2, 1) := by decide +kernel
theorem dL_matched_17 : decode cL_matched 17 = .ok (.ireturn, 1) := by decide +kernel
theorem dL_matched_18 : decode cL_matched 18 = .ok (.iconst 0, 1) := by decide +kernel
theorem dL_matched_19 : decode cL_matched 19 = .ok (.ireturn, 1) := by decide +kernel
theorem dL_mend_0 : decode cL_mend 0 = .ok (.aload_n 2, 1) := by decide +kernel
theorem dL_mend_1 : decode cL_mend 1 = .ok (.iconst 0, 1) := by decide +kernel
theorem dL_mend_2 : decode cL_mend 2 = .ok (.aload_n 0, 1) := by decide +kernel
theorem dL_mend_3 : decode cL_mend 3 = .ok (.iload_n 1, 1) := by decide +kernel
theorem dL_mend_4 : decode cL_mend 4 = .ok (.invokevirtual 78, 3) := by decide +kernel
theorem dL_mend_7 : decode cL_mend 7 = .ok (.i2l, 1) := by decide +kernel
theorem dL_mend_8 : decode cL_mend 8 = .ok (.lastore, 1) := by decide +kernel
theorem dL_mend_9 : decode cL_mend 9 = .ok (.goto 9, 3) := by decide +kernel
theorem dL_mend_12 : decode cL_mend 12 = .ok (.astore_n 3, 1) := by decide +kernel
theorem dL_mend_13 : decode cL_mend 13 = .ok (.iconst 1, 1) := by decide +kernel
theorem dL_mend_14 : decode cL_mend 14 = .ok (.ireturn, 1) := by decide +kernel
theorem dL_mend_15 : decode cL_mend 15 = .ok (.astore_n 3, 1) := by decide +kernel
theorem dL_mend_16 : decode cL_mend 16 = .ok (.iconst 2, 1) := by decide +kernel
theorem dL_mend_17 : decode cL_mend 17 = .ok (.ireturn, 1) := by decide +kernel
theorem dL_mend_18 : decode cL_mend 18 = .ok (.iconst 0, 1) := by decide +kernel
theorem dL_mend_19 : decode cL_mend 19 = .ok (.ireturn, 1) := by decide +kernel
theorem dL_average_0 : decode cL_average 0 = .ok (.aload_n 2, 1) := by decide +kernel
theorem dL_average_1 : decode cL_average 1 = .ok (.iconst 0, 1) := by decide +kernel
theorem dL_average_2 : decode cL_average 2 = .ok (.aload_n 0, 1) := by decide +kernel
theorem dL_average_3 : decode cL_average 3 = .ok (.iload_n 1, 1) := by decide +kernel
theorem dL_average_4 : decode cL_average 4 = .ok (.invokevirtual 81, 3) := by decide +kernel
theorem dL_average_7 : decode cL_average 7 = .ok (.dastore, 1) := by decide +kernel
theorem dL_average_8 : decode cL_average 8 = .ok (.goto 6, 3) := by decide +kernel
theorem dL_average_11 : decode cL_average 11 = .ok (.astore_n 3, 1) := by decide +kernel
theorem dL_average_12 : decode cL_average 12 = .ok (.iconst 1, 1) := by decide +kernel
theorem dL_average_13 : decode cL_average 13 = .ok (.ireturn, 1) := by decide +kernel
theorem dL_average_14 : decode cL_average 14 = .ok (.iconst 0, 1) := by decide +kernel
theorem dL_average_15 : decode cL_average 15 = .ok (.ireturn, 1) := by decide +kernel
theorem dL_rollBack_0 : decode cL_rollBack 0 = .ok (.aload_n 1, 1) := by decide +kernel
theorem dL_rollBack_1 : decode cL_rollBack 1 = .ok (.iconst 0, 1) := by decide +kernel
theorem dL_rollBack_2 : decode cL_rollBack 2 = .ok (.aload_n 0, 1) := by decide +kernel
theorem dL_rollBack_3 : decode cL_rollBack 3 = .ok (.invokevirtual 85, 3) := by decide +kernel
theorem dL_rollBack_6 : decode cL_rollBack 6 = .ok (.i2l, 1) := by decide +kernel
theorem dL_rollBack_7 : decode cL_rollBack 7 = .ok (.lastore, 1) := by decide +kernel
theorem dL_rollBack_8 : decode cL_rollBack 8 = .ok (.goto 6, 3) := by decide +kernel
theorem dL_rollBack_11 : decode cL_rollBack 11 = .ok (.astore_n 2, 1) := by decide +kernel
theorem dL_rollBack_12 : decode cL_rollBack 12 = .ok (.iconst 1, 1) := by decide +kernel
theorem dL_rollBack_13 : decode cL_rollBack 13 = .ok (.ireturn, 1) := by decide +kernel
theorem dL_rollBack_14 : decode cL_rollBack 14 = .ok (.iconst 0, 1) := by decide +kernel
theorem dL_rollBack_15 : decode cL_rollBack 15 = .ok (.ireturn, 1) := by decide +kernel

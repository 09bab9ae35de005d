def RL : String := "ArcLightLaw"
abbrev cL_addSentence : ByteArray := method_3_code
def yL_addSentence : MethodName := ⟨RL, "addSentence", "(LArcLight;[J)I"⟩
abbrev cL_addWord : ByteArray := method_4_code
def yL_addWord : MethodName := ⟨RL, "addWord", "(LArcLight;II[J)I"⟩
abbrev cL_words : ByteArray := method_5_code
def yL_words : MethodName := ⟨RL, "words", "(LArcLight;I[J)I"⟩
abbrev cL_kind : ByteArray := method_6_code
def yL_kind : MethodName := ⟨RL, "kind", "(LArcLight;II[J)I"⟩
abbrev cL_setWeight : ByteArray := method_7_code
def yL_setWeight : MethodName := ⟨RL, "setWeight", "(LArcLight;II[J)I"⟩
abbrev cL_weight : ByteArray := method_8_code
def yL_weight : MethodName := ⟨RL, "weight", "(LArcLight;I[J)I"⟩
abbrev cL_feature : ByteArray := method_9_code
def yL_feature : MethodName := ⟨RL, "feature", "(LArcLight;IIIZ[J)I"⟩
abbrev cL_score : ByteArray := method_10_code
def yL_score : MethodName := ⟨RL, "score", "(LArcLight;III[J)I"⟩
abbrev cL_mark : ByteArray := method_11_code
def yL_mark : MethodName := ⟨RL, "mark", "(LArcLight;IIII[J)I"⟩
abbrev cL_trees : ByteArray := method_12_code
def yL_trees : MethodName := ⟨RL, "trees", "(LArcLight;IZ[J)I"⟩
abbrev cL_best : ByteArray := method_13_code
def yL_best : MethodName := ⟨RL, "best", "(LArcLight;IZ[J)I"⟩
abbrev cL_bestByTrying : ByteArray := method_14_code
def yL_bestByTrying : MethodName := ⟨RL, "bestByTrying", "(LArcLight;IZ[J)I"⟩
abbrev cL_head : ByteArray := method_15_code
def yL_head : MethodName := ⟨RL, "head", "(LArcLight;IZI[J)I"⟩
abbrev cL_crossings : ByteArray := method_16_code
def yL_crossings : MethodName := ⟨RL, "crossings", "(LArcLight;I[J)I"⟩
abbrev cL_ranked : ByteArray := method_17_code
def yL_ranked : MethodName := ⟨RL, "ranked", "(LArcLight;IZI[J)I"⟩
abbrev cL_rankedHead : ByteArray := method_18_code
def yL_rankedHead : MethodName := ⟨RL, "rankedHead", "(LArcLight;IZII[J)I"⟩
abbrev cL_correct : ByteArray := method_19_code
def yL_correct : MethodName := ⟨RL, "correct", "(LArcLight;III[J)I"⟩
abbrev cL_matched : ByteArray := method_20_code
def yL_matched : MethodName := ⟨RL, "matched", "(LArcLight;I[J)I"⟩
abbrev cL_mend : ByteArray := method_21_code
def yL_mend : MethodName := ⟨RL, "mend", "(LArcLight;I[J)I"⟩
abbrev cL_average : ByteArray := method_22_code
def yL_average : MethodName := ⟨RL, "average", "(LArcLight;I[D)I"⟩
abbrev cL_rollBack : ByteArray := method_23_code
def yL_rollBack : MethodName := ⟨RL, "rollBack", "(LArcLight;[J)I"⟩
abbrev cL_law : ByteArray := code
def yL_law : MethodName := ⟨RL, "law", "([I)Z"⟩
def wsL_addSentence_r1 : List Cond := [Cond.classLink RL 13 "java/lang/IllegalStateException", Cond.methodLink RL 7 yX6_addSentence, Cond.instanceMethod yX6_addSentence, Cond.selects RX6 yX6_addSentence yX6_addSentence, Cond.initialized RX6, Cond.code yX6_addSentence cX6_addSentence 1 (some .int), Cond.classLink RX6 54 "java/lang/IllegalStateException", Cond.initialized "java/lang/IllegalStateException", Cond.fieldLink RX6 15 "ArcLight" "count" "I", Cond.fieldLink RX6 11 "ArcLight" "all" "[LArcLight$Sentence;", Cond.classLink RX6 9 RX2, Cond.instantiable RX2 4, Cond.initialized RX2, Cond.methodLink RX6 61 yX2_init, Cond.instanceMethod yX2_init, Cond.code yX2_init cX2_init 1 none, Cond.methodLink RX2 3 objectInit, Cond.instanceMethod objectInit, Cond.code objectInit ⟨#[0xb1]⟩ 1 none, Cond.arrayClass .int, Cond.fieldLink RX2 9 "ArcLight$Sentence" "kinds" "[I", Cond.fieldLink RX2 15 "ArcLight$Sentence" "rightHeads" "[I", Cond.classLink RX2 18 "[[I", Cond.fieldLink RX2 20 "ArcLight$Sentence" "marks" "[[I"]
def wsL_addSentence_r2 : List Cond := [Cond.fieldLink RX2 23 "ArcLight$Sentence" "last" "I", Cond.methodLink RX2 27 yJ7_fill_53178, Cond.static yJ7_fill_53178, Cond.initialized RJ7, Cond.code yJ7_fill_53178 cJ7_fill_53178 4 none]
def wsL_addSentence : List Cond := .codeWith yL_addSentence cL_addSentence 3 (some .int) [(0, 8, 11, 13)] :: ((wsL_addSentence_r1 ++ wsL_addSentence_r2) ++ wsX60 ++ wsX20 ++ (vx_atS RX6 58 "java/lang/IllegalStateException" ["java/lang/RuntimeException", "java/lang/Exception"]).filter goodWord)
def wsL_addWord_r1 : List Cond := [Cond.classLink RL 19 "java/lang/IndexOutOfBoundsException", Cond.classLink RL 21 "java/lang/IllegalArgumentException", Cond.classLink RL 13 "java/lang/IllegalStateException", Cond.methodLink RL 15 yX6_addWord, Cond.instanceMethod yX6_addWord, Cond.selects RX6 yX6_addWord yX6_addWord, Cond.initialized RX6, Cond.code yX6_addWord cX6_addWord 4 (some .int), Cond.classLink RX6 66 "java/lang/IllegalArgumentException", Cond.initialized "java/lang/IllegalArgumentException", Cond.classLink RX6 54 "java/lang/IllegalStateException", Cond.initialized "java/lang/IllegalStateException", Cond.methodLink RX6 62 yX6_find, Cond.instanceMethod yX6_find, Cond.selects RX6 yX6_find yX6_find, Cond.code yX6_find cX6_find 3 (some (.object "ArcLight$Sentence")), Cond.classLink RX6 197 "java/lang/IndexOutOfBoundsException", Cond.initialized "java/lang/IndexOutOfBoundsException", Cond.fieldLink RX6 11 "ArcLight" "all" "[LArcLight$Sentence;", Cond.methodLink RX6 71 yX2_size, Cond.instanceMethod yX2_size, Cond.selects RX2 yX2_size yX2_size, Cond.initialized RX2, Cond.code yX2_size cX2_size 1 (some .int)]
def wsL_addWord_r2 : List Cond := [Cond.fieldLink RX2 23 "ArcLight$Sentence" "last" "I", Cond.methodLink RX6 77 yX2_append, Cond.instanceMethod yX2_append, Cond.selects RX2 yX2_append yX2_append, Cond.code yX2_append cX2_append 2 none, Cond.fieldLink RX2 9 "ArcLight$Sentence" "kinds" "[I"]
def wsL_addWord : List Cond := .codeWith yL_addWord cL_addWord 5 (some .int) [(0, 10, 13, 19), (0, 10, 17, 21), (0, 10, 21, 13)] :: ((wsL_addWord_r1 ++ wsL_addWord_r2) ++ wsX60 ++ wsX20 ++ (vx_atS RX6 70 "java/lang/IllegalArgumentException" ["java/lang/RuntimeException", "java/lang/Exception"]).filter goodWord ++ (vx_atS RX6 58 "java/lang/IllegalStateException" ["java/lang/RuntimeException", "java/lang/Exception"]).filter goodWord ++ (vx_atS RX6 201 "java/lang/IndexOutOfBoundsException" ["java/lang/RuntimeException", "java/lang/Exception"]).filter goodWord)
def wsL_words : List Cond := .codeWith yL_words cL_words 4 (some .int) [(0, 9, 12, 19)] :: ([.classLink RL 19 "java/lang/IndexOutOfBoundsException", .methodLink RL 23 yX6_words, .instanceMethod yX6_words, .selects RX6 yX6_words yX6_words, .initialized RX6, .code yX6_words cX6_words 2 (some .int), .methodLink RX6 62 yX6_find, .instanceMethod yX6_find, .selects RX6 yX6_find yX6_find, .code yX6_find cX6_find 3 (some (.object "ArcLight$Sentence")), .classLink RX6 197 "java/lang/IndexOutOfBoundsException", .initialized "java/lang/IndexOutOfBoundsException", .fieldLink RX6 11 "ArcLight" "all" "[LArcLight$Sentence;", .methodLink RX6 71 yX2_size, .instanceMethod yX2_size, .selects RX2 yX2_size yX2_size, .initialized RX2, .code yX2_size cX2_size 1 (some .int), .fieldLink RX2 23 "ArcLight$Sentence" "last" "I"] ++ wsX60 ++ wsX20 ++ (vx_atS RX6 201 "java/lang/IndexOutOfBoundsException" ["java/lang/RuntimeException", "java/lang/Exception"]).filter goodWord)
def wsL_kind_r1 : List Cond := [Cond.classLink RL 19 "java/lang/IndexOutOfBoundsException", Cond.methodLink RL 27 yX6_kind, Cond.instanceMethod yX6_kind, Cond.selects RX6 yX6_kind yX6_kind, Cond.initialized RX6, Cond.code yX6_kind cX6_kind 4 (some .int), Cond.methodLink RX6 62 yX6_find, Cond.instanceMethod yX6_find, Cond.selects RX6 yX6_find yX6_find, Cond.code yX6_find cX6_find 3 (some (.object "ArcLight$Sentence")), Cond.classLink RX6 197 "java/lang/IndexOutOfBoundsException", Cond.initialized "java/lang/IndexOutOfBoundsException", Cond.fieldLink RX6 11 "ArcLight" "all" "[LArcLight$Sentence;", Cond.methodLink RX6 81 yX6_checkWord, Cond.static yX6_checkWord, Cond.code yX6_checkWord cX6_checkWord 2 none, Cond.methodLink RX6 71 yX2_size, Cond.instanceMethod yX2_size, Cond.selects RX2 yX2_size yX2_size, Cond.initialized RX2, Cond.code yX2_size cX2_size 1 (some .int), Cond.fieldLink RX2 23 "ArcLight$Sentence" "last" "I", Cond.methodLink RX6 85 yX2_kindAt, Cond.instanceMethod yX2_kindAt]
def wsL_kind_r2 : List Cond := [Cond.selects RX2 yX2_kindAt yX2_kindAt, Cond.code yX2_kindAt cX2_kindAt 2 (some .int), Cond.fieldLink RX2 9 "ArcLight$Sentence" "kinds" "[I", Cond.static yX6_isPlace, Cond.code yX6_isPlace cX6_isPlace 1 (some .boolean)]
def wsL_kind : List Cond := .codeWith yL_kind cL_kind 5 (some .int) [(0, 10, 13, 19)] :: ((wsL_kind_r1 ++ wsL_kind_r2) ++ wsX60 ++ wsX20 ++ (vx_atS RX6 201 "java/lang/IndexOutOfBoundsException" ["java/lang/RuntimeException", "java/lang/Exception"]).filter goodWord)
def wsL_setWeight_r1 : List Cond := [Cond.classLink RL 19 "java/lang/IndexOutOfBoundsException", Cond.classLink RL 21 "java/lang/IllegalArgumentException", Cond.methodLink RL 30 yX6_setWeight, Cond.instanceMethod yX6_setWeight, Cond.selects RX6 yX6_setWeight yX6_setWeight, Cond.initialized RX6, Cond.code yX6_setWeight cX6_setWeight 4 (some .int), Cond.classLink RX6 66 "java/lang/IllegalArgumentException", Cond.initialized "java/lang/IllegalArgumentException", Cond.fieldLink RX6 22 "ArcLight" "weights" "LArcLight$Weights;", Cond.methodLink RX6 89 yX6_checkFeature, Cond.static yX6_checkFeature, Cond.code yX6_checkFeature cX6_checkFeature 1 none, Cond.classLink RX6 197 "java/lang/IndexOutOfBoundsException", Cond.initialized "java/lang/IndexOutOfBoundsException", Cond.methodLink RX6 94 yX5_get, Cond.instanceMethod yX5_get, Cond.selects RX5 yX5_get yX5_get, Cond.initialized RX5, Cond.code yX5_get cX5_get 2 (some .int), Cond.fieldLink RX5 9 "ArcLight$Weights" "now" "[I", Cond.methodLink RX5 42 yX5_isFeature, Cond.static yX5_isFeature, Cond.code yX5_isFeature cX5_isFeature 1 (some .boolean)]
def wsL_setWeight_r2 : List Cond := [Cond.methodLink RX6 97 yX5_keep, Cond.instanceMethod yX5_keep, Cond.selects RX5 yX5_keep yX5_keep, Cond.code yX5_keep cX5_keep 1 none, Cond.fieldLink RX5 39 "ArcLight$Weights" "next" "I", Cond.fieldLink RX5 25 "ArcLight$Weights" "oldWeights" "[[I", Cond.methodLink RX5 66 arraycopyName, Cond.native arraycopyName, Cond.static arraycopyName, Cond.initialized "java/lang/System", Cond.fieldLink RX5 15 "ArcLight$Weights" "sums" "[J", Cond.fieldLink RX5 30 "ArcLight$Weights" "oldSums" "[[J", Cond.fieldLink RX5 33 "ArcLight$Weights" "oldSteps" "[I", Cond.fieldLink RX5 19 "ArcLight$Weights" "steps" "I", Cond.fieldLink RX5 36 "ArcLight$Weights" "kept" "I", Cond.methodLink RX5 72 Lib.Math.min.name, Cond.static Lib.Math.min.name, Cond.initialized "java/lang/Math", Cond.code Lib.Math.min.name Lib.Math.min.code 2 (some .int), Cond.methodLink RX5 63 yX5_isRow, Cond.static yX5_isRow, Cond.code yX5_isRow cX5_isRow 1 (some .boolean), Cond.methodLink RX6 100 yX5_put, Cond.instanceMethod yX5_put]
def wsL_setWeight_r3 : List Cond := [Cond.selects RX5 yX5_put yX5_put, Cond.code yX5_put cX5_put 3 none]
def wsL_setWeight : List Cond := .codeWith yL_setWeight cL_setWeight 5 (some .int) [(0, 10, 13, 19), (0, 10, 17, 21)] :: ((wsL_setWeight_r1 ++ (wsL_setWeight_r2 ++ wsL_setWeight_r3)) ++ wsX60 ++ wsX50 ++ (vx_atS RX6 70 "java/lang/IllegalArgumentException" ["java/lang/RuntimeException", "java/lang/Exception"]).filter goodWord ++ (vx_atS RX6 201 "java/lang/IndexOutOfBoundsException" ["java/lang/RuntimeException", "java/lang/Exception"]).filter goodWord)
def wsL_weight : List Cond := .codeWith yL_weight cL_weight 4 (some .int) [(0, 9, 12, 19)] :: ([.classLink RL 19 "java/lang/IndexOutOfBoundsException", .methodLink RL 33 yX6_weight, .instanceMethod yX6_weight, .selects RX6 yX6_weight yX6_weight, .initialized RX6, .code yX6_weight cX6_weight 2 (some .int), .fieldLink RX6 22 "ArcLight" "weights" "LArcLight$Weights;", .methodLink RX6 89 yX6_checkFeature, .static yX6_checkFeature, .code yX6_checkFeature cX6_checkFeature 1 none, .classLink RX6 197 "java/lang/IndexOutOfBoundsException", .initialized "java/lang/IndexOutOfBoundsException", .methodLink RX6 94 yX5_get, .instanceMethod yX5_get, .selects RX5 yX5_get yX5_get, .initialized RX5, .code yX5_get cX5_get 2 (some .int), .fieldLink RX5 9 "ArcLight$Weights" "now" "[I", .methodLink RX5 42 yX5_isFeature, .static yX5_isFeature, .code yX5_isFeature cX5_isFeature 1 (some .boolean)] ++ wsX60 ++ wsX50 ++ (vx_atS RX6 201 "java/lang/IndexOutOfBoundsException" ["java/lang/RuntimeException", "java/lang/Exception"]).filter goodWord)
def wsL_feature_r1 : List Cond := [Cond.classLink RL 19 "java/lang/IndexOutOfBoundsException", Cond.classLink RL 21 "java/lang/IllegalArgumentException", Cond.methodLink RL 36 yX6_feature, Cond.instanceMethod yX6_feature, Cond.selects RX6 yX6_feature yX6_feature, Cond.initialized RX6, Cond.code yX6_feature cX6_feature 6 (some .int), Cond.methodLink RX6 62 yX6_find, Cond.instanceMethod yX6_find, Cond.selects RX6 yX6_find yX6_find, Cond.code yX6_find cX6_find 3 (some (.object "ArcLight$Sentence")), Cond.classLink RX6 197 "java/lang/IndexOutOfBoundsException", Cond.initialized "java/lang/IndexOutOfBoundsException", Cond.fieldLink RX6 11 "ArcLight" "all" "[LArcLight$Sentence;", Cond.methodLink RX6 104 yX6_checkArc, Cond.static yX6_checkArc, Cond.code yX6_checkArc cX6_checkArc 3 none, Cond.classLink RX6 66 "java/lang/IllegalArgumentException", Cond.initialized "java/lang/IllegalArgumentException", Cond.methodLink RX6 71 yX2_size, Cond.instanceMethod yX2_size, Cond.selects RX2 yX2_size yX2_size, Cond.initialized RX2, Cond.code yX2_size cX2_size 1 (some .int)]
def wsL_feature_r2 : List Cond := [Cond.fieldLink RX2 23 "ArcLight$Sentence" "last" "I", Cond.methodLink RX6 81 yX6_checkWord, Cond.static yX6_checkWord, Cond.code yX6_checkWord cX6_checkWord 2 none, Cond.methodLink RX6 108 yX6_byDistance, Cond.static yX6_byDistance, Cond.code yX6_byDistance cX6_byDistance 3 (some .int), Cond.methodLink RX6 246 Lib.Math.abs.name, Cond.static Lib.Math.abs.name, Cond.initialized "java/lang/Math", Cond.code Lib.Math.abs.name Lib.Math.abs.code 1 (some .int), Cond.methodLink RX6 249 Lib.Math.min.name, Cond.static Lib.Math.min.name, Cond.code Lib.Math.min.name Lib.Math.min.code 2 (some .int), Cond.methodLink RX6 112 yX2_byKinds, Cond.instanceMethod yX2_byKinds, Cond.selects RX2 yX2_byKinds yX2_byKinds, Cond.code yX2_byKinds cX2_byKinds 3 (some .int), Cond.methodLink RX2 37 yX2_kindAt, Cond.instanceMethod yX2_kindAt, Cond.selects RX2 yX2_kindAt yX2_kindAt, Cond.code yX2_kindAt cX2_kindAt 2 (some .int), Cond.fieldLink RX2 9 "ArcLight$Sentence" "kinds" "[I", Cond.static yX6_isPlace]
def wsL_feature_r3 : List Cond := [Cond.code yX6_isPlace cX6_isPlace 1 (some .boolean)]
def wsL_feature : List Cond := .codeWith yL_feature cL_feature 7 (some .int) [(0, 14, 17, 19), (0, 14, 21, 21)] :: ((wsL_feature_r1 ++ (wsL_feature_r2 ++ wsL_feature_r3)) ++ wsX60 ++ wsX20 ++ (vx_atS RX6 201 "java/lang/IndexOutOfBoundsException" ["java/lang/RuntimeException", "java/lang/Exception"]).filter goodWord ++ (vx_atS RX6 70 "java/lang/IllegalArgumentException" ["java/lang/RuntimeException", "java/lang/Exception"]).filter goodWord)
def wsL_score_r1 : List Cond := [Cond.classLink RL 19 "java/lang/IndexOutOfBoundsException", Cond.classLink RL 21 "java/lang/IllegalArgumentException", Cond.methodLink RL 40 yX6_score, Cond.instanceMethod yX6_score, Cond.selects RX6 yX6_score yX6_score, Cond.initialized RX6, Cond.code yX6_score cX6_score 5 (some .int), Cond.fieldLink RX6 22 "ArcLight" "weights" "LArcLight$Weights;", Cond.methodLink RX6 62 yX6_find, Cond.instanceMethod yX6_find, Cond.selects RX6 yX6_find yX6_find, Cond.code yX6_find cX6_find 3 (some (.object "ArcLight$Sentence")), Cond.classLink RX6 197 "java/lang/IndexOutOfBoundsException", Cond.initialized "java/lang/IndexOutOfBoundsException", Cond.fieldLink RX6 11 "ArcLight" "all" "[LArcLight$Sentence;", Cond.methodLink RX6 104 yX6_checkArc, Cond.static yX6_checkArc, Cond.code yX6_checkArc cX6_checkArc 3 none, Cond.classLink RX6 66 "java/lang/IllegalArgumentException", Cond.initialized "java/lang/IllegalArgumentException", Cond.methodLink RX6 71 yX2_size, Cond.instanceMethod yX2_size, Cond.selects RX2 yX2_size yX2_size, Cond.initialized RX2]
def wsL_score_r2 : List Cond := [Cond.code yX2_size cX2_size 1 (some .int), Cond.fieldLink RX2 23 "ArcLight$Sentence" "last" "I", Cond.methodLink RX6 81 yX6_checkWord, Cond.static yX6_checkWord, Cond.code yX6_checkWord cX6_checkWord 2 none, Cond.methodLink RX6 115 yX5_ofArc, Cond.instanceMethod yX5_ofArc, Cond.selects RX5 yX5_ofArc yX5_ofArc, Cond.initialized RX5, Cond.code yX5_ofArc cX5_ofArc 4 (some .int), Cond.methodLink RX5 46 yX2_byKinds, Cond.instanceMethod yX2_byKinds, Cond.selects RX2 yX2_byKinds yX2_byKinds, Cond.code yX2_byKinds cX2_byKinds 3 (some .int), Cond.methodLink RX2 37 yX2_kindAt, Cond.instanceMethod yX2_kindAt, Cond.selects RX2 yX2_kindAt yX2_kindAt, Cond.code yX2_kindAt cX2_kindAt 2 (some .int), Cond.fieldLink RX2 9 "ArcLight$Sentence" "kinds" "[I", Cond.static yX6_isPlace, Cond.code yX6_isPlace cX6_isPlace 1 (some .boolean), Cond.methodLink RX5 52 yX5_get, Cond.instanceMethod yX5_get, Cond.selects RX5 yX5_get yX5_get]
def wsL_score_r3 : List Cond := [Cond.code yX5_get cX5_get 2 (some .int), Cond.fieldLink RX5 9 "ArcLight$Weights" "now" "[I", Cond.methodLink RX5 42 yX5_isFeature, Cond.static yX5_isFeature, Cond.code yX5_isFeature cX5_isFeature 1 (some .boolean), Cond.static yX6_byDistance, Cond.code yX6_byDistance cX6_byDistance 3 (some .int), Cond.methodLink RX6 246 Lib.Math.abs.name, Cond.static Lib.Math.abs.name, Cond.initialized "java/lang/Math", Cond.code Lib.Math.abs.name Lib.Math.abs.code 1 (some .int), Cond.methodLink RX6 249 Lib.Math.min.name, Cond.static Lib.Math.min.name, Cond.code Lib.Math.min.name Lib.Math.min.code 2 (some .int)]
def wsL_score : List Cond := .codeWith yL_score cL_score 6 (some .int) [(0, 12, 15, 19), (0, 12, 19, 21)] :: ((wsL_score_r1 ++ (wsL_score_r2 ++ wsL_score_r3)) ++ wsX60 ++ wsX20 ++ wsX50 ++ (vx_atS RX6 201 "java/lang/IndexOutOfBoundsException" ["java/lang/RuntimeException", "java/lang/Exception"]).filter goodWord ++ (vx_atS RX6 70 "java/lang/IllegalArgumentException" ["java/lang/RuntimeException", "java/lang/Exception"]).filter goodWord)
def wsL_mark_r1 : List Cond := [Cond.classLink RL 19 "java/lang/IndexOutOfBoundsException", Cond.classLink RL 21 "java/lang/IllegalArgumentException", Cond.classLink RL 13 "java/lang/IllegalStateException", Cond.methodLink RL 44 yX6_mark, Cond.instanceMethod yX6_mark, Cond.selects RX6 yX6_mark yX6_mark, Cond.initialized RX6, Cond.code yX6_mark cX6_mark 7 (some .int), Cond.classLink RX6 66 "java/lang/IllegalArgumentException", Cond.initialized "java/lang/IllegalArgumentException", Cond.classLink RX6 54 "java/lang/IllegalStateException", Cond.initialized "java/lang/IllegalStateException", Cond.methodLink RX6 62 yX6_find, Cond.instanceMethod yX6_find, Cond.selects RX6 yX6_find yX6_find, Cond.code yX6_find cX6_find 3 (some (.object "ArcLight$Sentence")), Cond.classLink RX6 197 "java/lang/IndexOutOfBoundsException", Cond.initialized "java/lang/IndexOutOfBoundsException", Cond.fieldLink RX6 11 "ArcLight" "all" "[LArcLight$Sentence;", Cond.methodLink RX6 104 yX6_checkArc, Cond.static yX6_checkArc, Cond.code yX6_checkArc cX6_checkArc 3 none, Cond.methodLink RX6 71 yX2_size, Cond.instanceMethod yX2_size]
def wsL_mark_r2 : List Cond := [Cond.selects RX2 yX2_size yX2_size, Cond.initialized RX2, Cond.code yX2_size cX2_size 1 (some .int), Cond.fieldLink RX2 23 "ArcLight$Sentence" "last" "I", Cond.methodLink RX6 81 yX6_checkWord, Cond.static yX6_checkWord, Cond.code yX6_checkWord cX6_checkWord 2 none, Cond.methodLink RX6 121 yX2_forcedHead, Cond.instanceMethod yX2_forcedHead, Cond.selects RX2 yX2_forcedHead yX2_forcedHead, Cond.code yX2_forcedHead cX2_forcedHead 3 (some .int), Cond.methodLink RX2 41 yX2_markOf, Cond.instanceMethod yX2_markOf, Cond.selects RX2 yX2_markOf yX2_markOf, Cond.code yX2_markOf cX2_markOf 3 (some .int), Cond.fieldLink RX2 20 "ArcLight$Sentence" "marks" "[[I", Cond.static yX6_isPlace, Cond.code yX6_isPlace cX6_isPlace 1 (some .boolean), Cond.methodLink RX6 126 yX2_changeMark, Cond.instanceMethod yX2_changeMark, Cond.selects RX2 yX2_changeMark yX2_changeMark, Cond.code yX2_changeMark cX2_changeMark 5 (some .int)]
def wsL_mark : List Cond := .codeWith yL_mark cL_mark 7 (some .int) [(0, 14, 17, 19), (0, 14, 21, 21), (0, 14, 25, 13)] :: ((wsL_mark_r1 ++ wsL_mark_r2) ++ wsX60 ++ wsX20 ++ (vx_atS RX6 70 "java/lang/IllegalArgumentException" ["java/lang/RuntimeException", "java/lang/Exception"]).filter goodWord ++ (vx_atS RX6 58 "java/lang/IllegalStateException" ["java/lang/RuntimeException", "java/lang/Exception"]).filter goodWord ++ (vx_atS RX6 201 "java/lang/IndexOutOfBoundsException" ["java/lang/RuntimeException", "java/lang/Exception"]).filter goodWord)
def wsL_trees_r1 : List Cond := [Cond.classLink RL 19 "java/lang/IndexOutOfBoundsException", Cond.methodLink RL 48 yX6_trees, Cond.instanceMethod yX6_trees, Cond.selects RX6 yX6_trees yX6_trees, Cond.initialized RX6, Cond.code yX6_trees cX6_trees 3 (some .int), Cond.methodLink RX6 62 yX6_find, Cond.instanceMethod yX6_find, Cond.selects RX6 yX6_find yX6_find, Cond.code yX6_find cX6_find 3 (some (.object "ArcLight$Sentence")), Cond.classLink RX6 197 "java/lang/IndexOutOfBoundsException", Cond.initialized "java/lang/IndexOutOfBoundsException", Cond.fieldLink RX6 11 "ArcLight" "all" "[LArcLight$Sentence;", Cond.methodLink RX6 130 yX6_tryAll, Cond.instanceMethod yX6_tryAll, Cond.selects RX6 yX6_tryAll yX6_tryAll, Cond.code yX6_tryAll cX6_tryAll 3 (some (.object "ArcLight$Trial")), Cond.fieldLink RX6 29 "ArcLight" "arcs" "LArcLight$ArcKeys;", Cond.fieldLink RX6 22 "ArcLight" "weights" "LArcLight$Weights;", Cond.fieldLink RX6 50 "ArcLight" "trial" "LArcLight$Trial;", Cond.methodLink RX6 214 yX0_fill, Cond.instanceMethod yX0_fill, Cond.selects RX0 yX0_fill yX0_fill, Cond.initialized RX0]
def wsL_trees_r2 : List Cond := [Cond.code yX0_fill cX0_fill 5 none, Cond.methodLink RX0 26 Lib.Math.min.name, Cond.static Lib.Math.min.name, Cond.initialized "java/lang/Math", Cond.code Lib.Math.min.name Lib.Math.min.code 2 (some .int), Cond.fieldLink RX0 16 "ArcLight$ArcKeys" "last" "I", Cond.fieldLink RX0 11 "ArcLight$ArcKeys" "keys" "[[J", Cond.constantLong RX0 32 (-9223372036854775808), Cond.constantLong RX0 44 (117649), Cond.methodLink RX0 20 yX2_size, Cond.instanceMethod yX2_size, Cond.selects RX2 yX2_size yX2_size, Cond.initialized RX2, Cond.code yX2_size cX2_size 1 (some .int), Cond.fieldLink RX2 23 "ArcLight$Sentence" "last" "I", Cond.methodLink RX0 34 yX2_allows, Cond.instanceMethod yX2_allows, Cond.selects RX2 yX2_allows yX2_allows, Cond.code yX2_allows cX2_allows 4 (some .boolean), Cond.methodLink RX2 41 yX2_markOf, Cond.instanceMethod yX2_markOf, Cond.selects RX2 yX2_markOf yX2_markOf, Cond.code yX2_markOf cX2_markOf 3 (some .int), Cond.fieldLink RX2 20 "ArcLight$Sentence" "marks" "[[I"]
def wsL_trees_r3 : List Cond := [Cond.static yX6_isPlace, Cond.code yX6_isPlace cX6_isPlace 1 (some .boolean), Cond.methodLink RX2 45 yX2_forcedHead, Cond.instanceMethod yX2_forcedHead, Cond.selects RX2 yX2_forcedHead yX2_forcedHead, Cond.code yX2_forcedHead cX2_forcedHead 3 (some .int), Cond.methodLink RX0 38 yX5_ofArc, Cond.instanceMethod yX5_ofArc, Cond.selects RX5 yX5_ofArc yX5_ofArc, Cond.initialized RX5, Cond.code yX5_ofArc cX5_ofArc 4 (some .int), Cond.methodLink RX5 46 yX2_byKinds, Cond.instanceMethod yX2_byKinds, Cond.selects RX2 yX2_byKinds yX2_byKinds, Cond.code yX2_byKinds cX2_byKinds 3 (some .int), Cond.methodLink RX2 37 yX2_kindAt, Cond.instanceMethod yX2_kindAt, Cond.selects RX2 yX2_kindAt yX2_kindAt, Cond.code yX2_kindAt cX2_kindAt 2 (some .int), Cond.fieldLink RX2 9 "ArcLight$Sentence" "kinds" "[I", Cond.methodLink RX5 52 yX5_get, Cond.instanceMethod yX5_get, Cond.selects RX5 yX5_get yX5_get, Cond.code yX5_get cX5_get 2 (some .int)]
def wsL_trees_r4 : List Cond := [Cond.fieldLink RX5 9 "ArcLight$Weights" "now" "[I", Cond.methodLink RX5 42 yX5_isFeature, Cond.static yX5_isFeature, Cond.code yX5_isFeature cX5_isFeature 1 (some .boolean), Cond.static yX6_byDistance, Cond.code yX6_byDistance cX6_byDistance 3 (some .int), Cond.methodLink RX6 246 Lib.Math.abs.name, Cond.static Lib.Math.abs.name, Cond.code Lib.Math.abs.name Lib.Math.abs.code 1 (some .int), Cond.methodLink RX6 249 Lib.Math.min.name, Cond.methodLink RX6 218 yX4_run, Cond.instanceMethod yX4_run, Cond.selects RX4 yX4_run yX4_run, Cond.initialized RX4, Cond.code yX4_run cX4_run 3 none, Cond.fieldLink RX4 19 "ArcLight$Trial" "found" "I", Cond.methodLink RX4 23 yX4_giveHeads, Cond.static yX4_giveHeads, Cond.code yX4_giveHeads cX4_giveHeads 9 none, Cond.constantLong RX4 27 (-9223372036854775808), Cond.fieldLink RX4 15 "ArcLight$Trial" "heads" "[I", Cond.methodLink RX4 52 yX0_size, Cond.instanceMethod yX0_size, Cond.selects RX0 yX0_size yX0_size]
def wsL_trees_r5 : List Cond := [Cond.code yX0_size cX0_size 1 (some .int), Cond.methodLink RX4 58 yX4_note, Cond.instanceMethod yX4_note, Cond.selects RX4 yX4_note yX4_note, Cond.code yX4_note cX4_note 3 none, Cond.fieldLink RX4 9 "ArcLight$Trial" "keys" "[J", Cond.methodLink RX4 62 yX0_get, Cond.instanceMethod yX0_get, Cond.selects RX0 yX0_get yX0_get, Cond.code yX0_get cX0_get 3 (some .long), Cond.methodLink RX4 66 yX4_closesCircle, Cond.instanceMethod yX4_closesCircle, Cond.selects RX4 yX4_closesCircle yX4_closesCircle, Cond.code yX4_closesCircle cX4_closesCircle 5 (some .boolean), Cond.methodLink RX4 70 yX4_crossesEarlier, Cond.instanceMethod yX4_crossesEarlier, Cond.selects RX4 yX4_crossesEarlier yX4_crossesEarlier, Cond.code yX4_crossesEarlier cX4_crossesEarlier 4 (some .boolean), Cond.static yX6_doCross, Cond.code yX6_doCross cX6_doCross 8 (some .boolean), Cond.methodLink RX6 252 Lib.Math.max.name, Cond.static Lib.Math.max.name, Cond.code Lib.Math.max.name Lib.Math.max.code 2 (some .int), Cond.methodLink RX6 134 yX4_size]
def wsL_trees_r6 : List Cond := [Cond.instanceMethod yX4_size, Cond.selects RX4 yX4_size yX4_size, Cond.code yX4_size cX4_size 1 (some .int)]
def wsL_trees : List Cond := .codeWith yL_trees cL_trees 5 (some .int) [(0, 10, 13, 19)] :: ((wsL_trees_r1 ++ (wsL_trees_r2 ++ (wsL_trees_r3 ++ (wsL_trees_r4 ++ (wsL_trees_r5 ++ wsL_trees_r6))))) ++ wsX60 ++ wsX00 ++ wsX20 ++ wsX50 ++ wsX40 ++ (vx_atS RX6 201 "java/lang/IndexOutOfBoundsException" ["java/lang/RuntimeException", "java/lang/Exception"]).filter goodWord)
def wsL_best_r1 : List Cond := [Cond.classLink RL 19 "java/lang/IndexOutOfBoundsException", Cond.classLink RL 13 "java/lang/IllegalStateException", Cond.methodLink RL 52 yX6_best, Cond.instanceMethod yX6_best, Cond.selects RX6 yX6_best yX6_best, Cond.initialized RX6, Cond.code yX6_best cX6_best 3 (some .int), Cond.methodLink RX6 62 yX6_find, Cond.instanceMethod yX6_find, Cond.selects RX6 yX6_find yX6_find, Cond.code yX6_find cX6_find 3 (some (.object "ArcLight$Sentence")), Cond.classLink RX6 197 "java/lang/IndexOutOfBoundsException", Cond.initialized "java/lang/IndexOutOfBoundsException", Cond.fieldLink RX6 11 "ArcLight" "all" "[LArcLight$Sentence;", Cond.methodLink RX6 135 yX6_bestKey, Cond.instanceMethod yX6_bestKey, Cond.selects RX6 yX6_bestKey yX6_bestKey, Cond.code yX6_bestKey cX6_bestKey 5 (some .long), Cond.fieldLink RX6 29 "ArcLight" "arcs" "LArcLight$ArcKeys;", Cond.fieldLink RX6 22 "ArcLight" "weights" "LArcLight$Weights;", Cond.fieldLink RX6 43 "ArcLight" "circles" "LArcLight$Circles;", Cond.fieldLink RX6 36 "ArcLight" "spans" "LArcLight$Spans;", Cond.methodLink RX6 214 yX0_fill, Cond.instanceMethod yX0_fill]
def wsL_best_r2 : List Cond := [Cond.selects RX0 yX0_fill yX0_fill, Cond.initialized RX0, Cond.code yX0_fill cX0_fill 5 none, Cond.methodLink RX0 26 Lib.Math.min.name, Cond.static Lib.Math.min.name, Cond.initialized "java/lang/Math", Cond.code Lib.Math.min.name Lib.Math.min.code 2 (some .int), Cond.fieldLink RX0 16 "ArcLight$ArcKeys" "last" "I", Cond.fieldLink RX0 11 "ArcLight$ArcKeys" "keys" "[[J", Cond.constantLong RX0 32 (-9223372036854775808), Cond.constantLong RX0 44 (117649), Cond.methodLink RX0 20 yX2_size, Cond.instanceMethod yX2_size, Cond.selects RX2 yX2_size yX2_size, Cond.initialized RX2, Cond.code yX2_size cX2_size 1 (some .int), Cond.fieldLink RX2 23 "ArcLight$Sentence" "last" "I", Cond.methodLink RX0 34 yX2_allows, Cond.instanceMethod yX2_allows, Cond.selects RX2 yX2_allows yX2_allows, Cond.code yX2_allows cX2_allows 4 (some .boolean), Cond.methodLink RX2 41 yX2_markOf, Cond.instanceMethod yX2_markOf, Cond.selects RX2 yX2_markOf yX2_markOf]
def wsL_best_r3 : List Cond := [Cond.code yX2_markOf cX2_markOf 3 (some .int), Cond.fieldLink RX2 20 "ArcLight$Sentence" "marks" "[[I", Cond.static yX6_isPlace, Cond.code yX6_isPlace cX6_isPlace 1 (some .boolean), Cond.methodLink RX2 45 yX2_forcedHead, Cond.instanceMethod yX2_forcedHead, Cond.selects RX2 yX2_forcedHead yX2_forcedHead, Cond.code yX2_forcedHead cX2_forcedHead 3 (some .int), Cond.methodLink RX0 38 yX5_ofArc, Cond.instanceMethod yX5_ofArc, Cond.selects RX5 yX5_ofArc yX5_ofArc, Cond.initialized RX5, Cond.code yX5_ofArc cX5_ofArc 4 (some .int), Cond.methodLink RX5 46 yX2_byKinds, Cond.instanceMethod yX2_byKinds, Cond.selects RX2 yX2_byKinds yX2_byKinds, Cond.code yX2_byKinds cX2_byKinds 3 (some .int), Cond.methodLink RX2 37 yX2_kindAt, Cond.instanceMethod yX2_kindAt, Cond.selects RX2 yX2_kindAt yX2_kindAt, Cond.code yX2_kindAt cX2_kindAt 2 (some .int), Cond.fieldLink RX2 9 "ArcLight$Sentence" "kinds" "[I", Cond.methodLink RX5 52 yX5_get, Cond.instanceMethod yX5_get]
def wsL_best_r4 : List Cond := [Cond.selects RX5 yX5_get yX5_get, Cond.code yX5_get cX5_get 2 (some .int), Cond.fieldLink RX5 9 "ArcLight$Weights" "now" "[I", Cond.methodLink RX5 42 yX5_isFeature, Cond.static yX5_isFeature, Cond.code yX5_isFeature cX5_isFeature 1 (some .boolean), Cond.static yX6_byDistance, Cond.code yX6_byDistance cX6_byDistance 3 (some .int), Cond.methodLink RX6 246 Lib.Math.abs.name, Cond.static Lib.Math.abs.name, Cond.code Lib.Math.abs.name Lib.Math.abs.code 1 (some .int), Cond.methodLink RX6 249 Lib.Math.min.name, Cond.methodLink RX6 222 yX1_greatest, Cond.instanceMethod yX1_greatest, Cond.selects RX1 yX1_greatest yX1_greatest, Cond.initialized RX1, Cond.code yX1_greatest cX1_greatest 8 (some .long), Cond.methodLink RX1 36 Lib.Math.min.name, Cond.fieldLink RX1 26 "ArcLight$Circles" "nodes" "I", Cond.fieldLink RX1 11 "ArcLight$Circles" "keys" "[[J", Cond.constantLong RX1 50 (-9223372036854775808), Cond.methodLink RX1 30 yX0_size, Cond.instanceMethod yX0_size, Cond.selects RX0 yX0_size yX0_size]
def wsL_best_r5 : List Cond := [Cond.code yX0_size cX0_size 1 (some .int), Cond.methodLink RX1 42 yX0_get, Cond.instanceMethod yX0_get, Cond.selects RX0 yX0_get yX0_get, Cond.code yX0_get cX0_get 3 (some .long), Cond.methodLink RX1 46 yX1_takeGreatest, Cond.instanceMethod yX1_takeGreatest, Cond.selects RX1 yX1_takeGreatest yX1_takeGreatest, Cond.code yX1_takeGreatest cX1_takeGreatest 5 (some .long), Cond.fieldLink RX1 19 "ArcLight$Circles" "taken" "[I", Cond.methodLink RX1 59 yX1_takenKey, Cond.instanceMethod yX1_takenKey, Cond.selects RX1 yX1_takenKey yX1_takenKey, Cond.code yX1_takenKey cX1_takenKey 3 (some .long), Cond.methodLink RX1 63 yX1_takenHead, Cond.instanceMethod yX1_takenHead, Cond.selects RX1 yX1_takenHead yX1_takenHead, Cond.code yX1_takenHead cX1_takenHead 2 (some .int), Cond.methodLink RX1 52 yX1_findCircle, Cond.instanceMethod yX1_findCircle, Cond.selects RX1 yX1_findCircle yX1_findCircle, Cond.code yX1_findCircle cX1_findCircle 4 (some .int), Cond.methodLink RX1 55 yX1_contract, Cond.instanceMethod yX1_contract]
def wsL_best_r6 : List Cond := [Cond.selects RX1 yX1_contract yX1_contract, Cond.code yX1_contract cX1_contract 7 none, Cond.fieldLink RX1 16 "ArcLight$Circles" "contracted" "[[J", Cond.fieldLink RX1 23 "ArcLight$Circles" "groups" "[I", Cond.methodLink RX1 71 yX1_groupNodes, Cond.instanceMethod yX1_groupNodes, Cond.selects RX1 yX1_groupNodes yX1_groupNodes, Cond.code yX1_groupNodes cX1_groupNodes 5 (some .int), Cond.methodLink RX1 84 yJ7_fill_53178, Cond.static yJ7_fill_53178, Cond.initialized RJ7, Cond.code yJ7_fill_53178 cJ7_fill_53178 4 none, Cond.methodLink RX1 74 yJ7_fill_d0a16, Cond.static yJ7_fill_d0a16, Cond.code yJ7_fill_d0a16 cJ7_fill_d0a16 5 none, Cond.methodLink RX1 80 yX1_offer, Cond.instanceMethod yX1_offer, Cond.selects RX1 yX1_offer yX1_offer, Cond.code yX1_offer cX1_offer 5 none, Cond.methodLink RX6 225 yX3_greatest, Cond.instanceMethod yX3_greatest, Cond.selects RX3 yX3_greatest yX3_greatest, Cond.initialized RX3, Cond.code yX3_greatest cX3_greatest 5 (some .long)]
def wsL_best_r7 : List Cond := [Cond.methodLink RX3 31 Lib.Math.min.name, Cond.fieldLink RX3 11 "ArcLight$Spans" "wholeFromLeft" "[[J", Cond.fieldLink RX3 16 "ArcLight$Spans" "wholeFromRight" "[[J", Cond.constantLong RX3 45 (-9223372036854775808), Cond.methodLink RX3 25 yX0_size, Cond.methodLink RX3 37 yX3_fillOpen, Cond.instanceMethod yX3_fillOpen, Cond.selects RX3 yX3_fillOpen yX3_fillOpen, Cond.code yX3_fillOpen cX3_fillOpen 7 none, Cond.methodLink RX3 55 Lib.MathLoose.max_long.x, Cond.static Lib.MathLoose.max_long.x, Cond.code Lib.MathLoose.max_long.x Lib.MathLoose.max_long.code 4 (some .long), Cond.fieldLink RX3 19 "ArcLight$Spans" "openFromLeft" "[[J", Cond.fieldLink RX3 22 "ArcLight$Spans" "openFromRight" "[[J", Cond.methodLink RX3 51 yX3_join, Cond.static yX3_join, Cond.code yX3_join cX3_join 4 (some .long), Cond.methodLink RX3 58 yX0_get, Cond.methodLink RX3 41 yX3_fillWhole, Cond.instanceMethod yX3_fillWhole, Cond.selects RX3 yX3_fillWhole yX3_fillWhole, Cond.code yX3_fillWhole cX3_fillWhole 8 none, Cond.methodLink RX6 147 yX6_checkTree, Cond.static yX6_checkTree]
def wsL_best_r8 : List Cond := [Cond.code yX6_checkTree cX6_checkTree 2 none, Cond.classLink RX6 54 "java/lang/IllegalStateException", Cond.initialized "java/lang/IllegalStateException", Cond.constantLong RX6 210 (-9223372036854775808), Cond.methodLink RX6 139 yX6_scoreIn, Cond.static yX6_scoreIn, Cond.code yX6_scoreIn cX6_scoreIn 2 (some .int), Cond.constantLong RX6 232 (117649), Cond.methodLink RX6 240 yX6_rowOfHeads, Cond.static yX6_rowOfHeads, Cond.code yX6_rowOfHeads cX6_rowOfHeads 2 (some .long), Cond.methodLink RX6 234 yJ9_floorMod_f86c9, Cond.static yJ9_floorMod_f86c9, Cond.initialized RJ9, Cond.code yJ9_floorMod_f86c9 cJ9_floorMod_f86c9 6 (some .long)]
def wsL_best : List Cond := .codeWith yL_best cL_best 5 (some .int) [(0, 10, 13, 19), (0, 10, 17, 13)] :: ((wsL_best_r1 ++ (wsL_best_r2 ++ (wsL_best_r3 ++ (wsL_best_r4 ++ (wsL_best_r5 ++ (wsL_best_r6 ++ (wsL_best_r7 ++ wsL_best_r8))))))) ++ wsX60 ++ wsX00 ++ wsX20 ++ wsX50 ++ wsX10 ++ wsX30 ++ (vx_atS RX6 201 "java/lang/IndexOutOfBoundsException" ["java/lang/RuntimeException", "java/lang/Exception"]).filter goodWord ++ (vx_atS RX6 58 "java/lang/IllegalStateException" ["java/lang/RuntimeException", "java/lang/Exception"]).filter goodWord)
def wsL_bestByTrying_r1 : List Cond := [Cond.classLink RL 19 "java/lang/IndexOutOfBoundsException", Cond.classLink RL 13 "java/lang/IllegalStateException", Cond.methodLink RL 55 yX6_bestByTrying, Cond.instanceMethod yX6_bestByTrying, Cond.selects RX6 yX6_bestByTrying yX6_bestByTrying, Cond.initialized RX6, Cond.code yX6_bestByTrying cX6_bestByTrying 5 (some .int), Cond.methodLink RX6 62 yX6_find, Cond.instanceMethod yX6_find, Cond.selects RX6 yX6_find yX6_find, Cond.code yX6_find cX6_find 3 (some (.object "ArcLight$Sentence")), Cond.classLink RX6 197 "java/lang/IndexOutOfBoundsException", Cond.initialized "java/lang/IndexOutOfBoundsException", Cond.fieldLink RX6 11 "ArcLight" "all" "[LArcLight$Sentence;", Cond.methodLink RX6 130 yX6_tryAll, Cond.instanceMethod yX6_tryAll, Cond.selects RX6 yX6_tryAll yX6_tryAll, Cond.code yX6_tryAll cX6_tryAll 3 (some (.object "ArcLight$Trial")), Cond.fieldLink RX6 29 "ArcLight" "arcs" "LArcLight$ArcKeys;", Cond.fieldLink RX6 22 "ArcLight" "weights" "LArcLight$Weights;", Cond.fieldLink RX6 50 "ArcLight" "trial" "LArcLight$Trial;", Cond.methodLink RX6 214 yX0_fill, Cond.instanceMethod yX0_fill, Cond.selects RX0 yX0_fill yX0_fill]
def wsL_bestByTrying_r2 : List Cond := [Cond.initialized RX0, Cond.code yX0_fill cX0_fill 5 none, Cond.methodLink RX0 26 Lib.Math.min.name, Cond.static Lib.Math.min.name, Cond.initialized "java/lang/Math", Cond.code Lib.Math.min.name Lib.Math.min.code 2 (some .int), Cond.fieldLink RX0 16 "ArcLight$ArcKeys" "last" "I", Cond.fieldLink RX0 11 "ArcLight$ArcKeys" "keys" "[[J", Cond.constantLong RX0 32 (-9223372036854775808), Cond.constantLong RX0 44 (117649), Cond.methodLink RX0 20 yX2_size, Cond.instanceMethod yX2_size, Cond.selects RX2 yX2_size yX2_size, Cond.initialized RX2, Cond.code yX2_size cX2_size 1 (some .int), Cond.fieldLink RX2 23 "ArcLight$Sentence" "last" "I", Cond.methodLink RX0 34 yX2_allows, Cond.instanceMethod yX2_allows, Cond.selects RX2 yX2_allows yX2_allows, Cond.code yX2_allows cX2_allows 4 (some .boolean), Cond.methodLink RX2 41 yX2_markOf, Cond.instanceMethod yX2_markOf, Cond.selects RX2 yX2_markOf yX2_markOf, Cond.code yX2_markOf cX2_markOf 3 (some .int)]
def wsL_bestByTrying_r3 : List Cond := [Cond.fieldLink RX2 20 "ArcLight$Sentence" "marks" "[[I", Cond.static yX6_isPlace, Cond.code yX6_isPlace cX6_isPlace 1 (some .boolean), Cond.methodLink RX2 45 yX2_forcedHead, Cond.instanceMethod yX2_forcedHead, Cond.selects RX2 yX2_forcedHead yX2_forcedHead, Cond.code yX2_forcedHead cX2_forcedHead 3 (some .int), Cond.methodLink RX0 38 yX5_ofArc, Cond.instanceMethod yX5_ofArc, Cond.selects RX5 yX5_ofArc yX5_ofArc, Cond.initialized RX5, Cond.code yX5_ofArc cX5_ofArc 4 (some .int), Cond.methodLink RX5 46 yX2_byKinds, Cond.instanceMethod yX2_byKinds, Cond.selects RX2 yX2_byKinds yX2_byKinds, Cond.code yX2_byKinds cX2_byKinds 3 (some .int), Cond.methodLink RX2 37 yX2_kindAt, Cond.instanceMethod yX2_kindAt, Cond.selects RX2 yX2_kindAt yX2_kindAt, Cond.code yX2_kindAt cX2_kindAt 2 (some .int), Cond.fieldLink RX2 9 "ArcLight$Sentence" "kinds" "[I", Cond.methodLink RX5 52 yX5_get, Cond.instanceMethod yX5_get, Cond.selects RX5 yX5_get yX5_get]
def wsL_bestByTrying_r4 : List Cond := [Cond.code yX5_get cX5_get 2 (some .int), Cond.fieldLink RX5 9 "ArcLight$Weights" "now" "[I", Cond.methodLink RX5 42 yX5_isFeature, Cond.static yX5_isFeature, Cond.code yX5_isFeature cX5_isFeature 1 (some .boolean), Cond.static yX6_byDistance, Cond.code yX6_byDistance cX6_byDistance 3 (some .int), Cond.methodLink RX6 246 Lib.Math.abs.name, Cond.static Lib.Math.abs.name, Cond.code Lib.Math.abs.name Lib.Math.abs.code 1 (some .int), Cond.methodLink RX6 249 Lib.Math.min.name, Cond.methodLink RX6 218 yX4_run, Cond.instanceMethod yX4_run, Cond.selects RX4 yX4_run yX4_run, Cond.initialized RX4, Cond.code yX4_run cX4_run 3 none, Cond.fieldLink RX4 19 "ArcLight$Trial" "found" "I", Cond.methodLink RX4 23 yX4_giveHeads, Cond.static yX4_giveHeads, Cond.code yX4_giveHeads cX4_giveHeads 9 none, Cond.constantLong RX4 27 (-9223372036854775808), Cond.fieldLink RX4 15 "ArcLight$Trial" "heads" "[I", Cond.methodLink RX4 52 yX0_size, Cond.instanceMethod yX0_size]
def wsL_bestByTrying_r5 : List Cond := [Cond.selects RX0 yX0_size yX0_size, Cond.code yX0_size cX0_size 1 (some .int), Cond.methodLink RX4 58 yX4_note, Cond.instanceMethod yX4_note, Cond.selects RX4 yX4_note yX4_note, Cond.code yX4_note cX4_note 3 none, Cond.fieldLink RX4 9 "ArcLight$Trial" "keys" "[J", Cond.methodLink RX4 62 yX0_get, Cond.instanceMethod yX0_get, Cond.selects RX0 yX0_get yX0_get, Cond.code yX0_get cX0_get 3 (some .long), Cond.methodLink RX4 66 yX4_closesCircle, Cond.instanceMethod yX4_closesCircle, Cond.selects RX4 yX4_closesCircle yX4_closesCircle, Cond.code yX4_closesCircle cX4_closesCircle 5 (some .boolean), Cond.methodLink RX4 70 yX4_crossesEarlier, Cond.instanceMethod yX4_crossesEarlier, Cond.selects RX4 yX4_crossesEarlier yX4_crossesEarlier, Cond.code yX4_crossesEarlier cX4_crossesEarlier 4 (some .boolean), Cond.static yX6_doCross, Cond.code yX6_doCross cX6_doCross 8 (some .boolean), Cond.methodLink RX6 252 Lib.Math.max.name, Cond.static Lib.Math.max.name, Cond.code Lib.Math.max.name Lib.Math.max.code 2 (some .int)]
def wsL_bestByTrying_r6 : List Cond := [Cond.methodLink RX6 143 yX4_greatest, Cond.instanceMethod yX4_greatest, Cond.selects RX4 yX4_greatest yX4_greatest, Cond.code yX4_greatest cX4_greatest 4 (some .long), Cond.methodLink RX4 29 Lib.MathLoose.max_long.x, Cond.static Lib.MathLoose.max_long.x, Cond.code Lib.MathLoose.max_long.x Lib.MathLoose.max_long.code 4 (some .long), Cond.methodLink RX6 147 yX6_checkTree, Cond.static yX6_checkTree, Cond.code yX6_checkTree cX6_checkTree 2 none, Cond.classLink RX6 54 "java/lang/IllegalStateException", Cond.initialized "java/lang/IllegalStateException", Cond.constantLong RX6 210 (-9223372036854775808), Cond.methodLink RX6 139 yX6_scoreIn, Cond.static yX6_scoreIn, Cond.code yX6_scoreIn cX6_scoreIn 2 (some .int), Cond.constantLong RX6 232 (117649), Cond.methodLink RX6 240 yX6_rowOfHeads, Cond.static yX6_rowOfHeads, Cond.code yX6_rowOfHeads cX6_rowOfHeads 2 (some .long), Cond.methodLink RX6 234 yJ9_floorMod_f86c9, Cond.static yJ9_floorMod_f86c9, Cond.initialized RJ9, Cond.code yJ9_floorMod_f86c9 cJ9_floorMod_f86c9 6 (some .long)]
def wsL_bestByTrying : List Cond := .codeWith yL_bestByTrying cL_bestByTrying 5 (some .int) [(0, 10, 13, 19), (0, 10, 17, 13)] :: ((wsL_bestByTrying_r1 ++ (wsL_bestByTrying_r2 ++ (wsL_bestByTrying_r3 ++ (wsL_bestByTrying_r4 ++ (wsL_bestByTrying_r5 ++ wsL_bestByTrying_r6))))) ++ wsX60 ++ wsX00 ++ wsX20 ++ wsX50 ++ wsX40 ++ (vx_atS RX6 201 "java/lang/IndexOutOfBoundsException" ["java/lang/RuntimeException", "java/lang/Exception"]).filter goodWord ++ (vx_atS RX6 58 "java/lang/IllegalStateException" ["java/lang/RuntimeException", "java/lang/Exception"]).filter goodWord)
def wsL_head_r1 : List Cond := [Cond.classLink RL 19 "java/lang/IndexOutOfBoundsException", Cond.classLink RL 13 "java/lang/IllegalStateException", Cond.methodLink RL 58 yX6_head, Cond.instanceMethod yX6_head, Cond.selects RX6 yX6_head yX6_head, Cond.initialized RX6, Cond.code yX6_head cX6_head 5 (some .int), Cond.methodLink RX6 62 yX6_find, Cond.instanceMethod yX6_find, Cond.selects RX6 yX6_find yX6_find, Cond.code yX6_find cX6_find 3 (some (.object "ArcLight$Sentence")), Cond.classLink RX6 197 "java/lang/IndexOutOfBoundsException", Cond.initialized "java/lang/IndexOutOfBoundsException", Cond.fieldLink RX6 11 "ArcLight" "all" "[LArcLight$Sentence;", Cond.methodLink RX6 81 yX6_checkWord, Cond.static yX6_checkWord, Cond.code yX6_checkWord cX6_checkWord 2 none, Cond.methodLink RX6 71 yX2_size, Cond.instanceMethod yX2_size, Cond.selects RX2 yX2_size yX2_size, Cond.initialized RX2, Cond.code yX2_size cX2_size 1 (some .int), Cond.fieldLink RX2 23 "ArcLight$Sentence" "last" "I", Cond.methodLink RX6 135 yX6_bestKey]
def wsL_head_r2 : List Cond := [Cond.instanceMethod yX6_bestKey, Cond.selects RX6 yX6_bestKey yX6_bestKey, Cond.code yX6_bestKey cX6_bestKey 5 (some .long), Cond.fieldLink RX6 29 "ArcLight" "arcs" "LArcLight$ArcKeys;", Cond.fieldLink RX6 22 "ArcLight" "weights" "LArcLight$Weights;", Cond.fieldLink RX6 43 "ArcLight" "circles" "LArcLight$Circles;", Cond.fieldLink RX6 36 "ArcLight" "spans" "LArcLight$Spans;", Cond.methodLink RX6 214 yX0_fill, Cond.instanceMethod yX0_fill, Cond.selects RX0 yX0_fill yX0_fill, Cond.initialized RX0, Cond.code yX0_fill cX0_fill 5 none, Cond.methodLink RX0 26 Lib.Math.min.name, Cond.static Lib.Math.min.name, Cond.initialized "java/lang/Math", Cond.code Lib.Math.min.name Lib.Math.min.code 2 (some .int), Cond.fieldLink RX0 16 "ArcLight$ArcKeys" "last" "I", Cond.fieldLink RX0 11 "ArcLight$ArcKeys" "keys" "[[J", Cond.constantLong RX0 32 (-9223372036854775808), Cond.constantLong RX0 44 (117649), Cond.methodLink RX0 20 yX2_size, Cond.methodLink RX0 34 yX2_allows, Cond.instanceMethod yX2_allows, Cond.selects RX2 yX2_allows yX2_allows]
def wsL_head_r3 : List Cond := [Cond.code yX2_allows cX2_allows 4 (some .boolean), Cond.methodLink RX2 41 yX2_markOf, Cond.instanceMethod yX2_markOf, Cond.selects RX2 yX2_markOf yX2_markOf, Cond.code yX2_markOf cX2_markOf 3 (some .int), Cond.fieldLink RX2 20 "ArcLight$Sentence" "marks" "[[I", Cond.static yX6_isPlace, Cond.code yX6_isPlace cX6_isPlace 1 (some .boolean), Cond.methodLink RX2 45 yX2_forcedHead, Cond.instanceMethod yX2_forcedHead, Cond.selects RX2 yX2_forcedHead yX2_forcedHead, Cond.code yX2_forcedHead cX2_forcedHead 3 (some .int), Cond.methodLink RX0 38 yX5_ofArc, Cond.instanceMethod yX5_ofArc, Cond.selects RX5 yX5_ofArc yX5_ofArc, Cond.initialized RX5, Cond.code yX5_ofArc cX5_ofArc 4 (some .int), Cond.methodLink RX5 46 yX2_byKinds, Cond.instanceMethod yX2_byKinds, Cond.selects RX2 yX2_byKinds yX2_byKinds, Cond.code yX2_byKinds cX2_byKinds 3 (some .int), Cond.methodLink RX2 37 yX2_kindAt, Cond.instanceMethod yX2_kindAt, Cond.selects RX2 yX2_kindAt yX2_kindAt]
def wsL_head_r4 : List Cond := [Cond.code yX2_kindAt cX2_kindAt 2 (some .int), Cond.fieldLink RX2 9 "ArcLight$Sentence" "kinds" "[I", Cond.methodLink RX5 52 yX5_get, Cond.instanceMethod yX5_get, Cond.selects RX5 yX5_get yX5_get, Cond.code yX5_get cX5_get 2 (some .int), Cond.fieldLink RX5 9 "ArcLight$Weights" "now" "[I", Cond.methodLink RX5 42 yX5_isFeature, Cond.static yX5_isFeature, Cond.code yX5_isFeature cX5_isFeature 1 (some .boolean), Cond.static yX6_byDistance, Cond.code yX6_byDistance cX6_byDistance 3 (some .int), Cond.methodLink RX6 246 Lib.Math.abs.name, Cond.static Lib.Math.abs.name, Cond.code Lib.Math.abs.name Lib.Math.abs.code 1 (some .int), Cond.methodLink RX6 249 Lib.Math.min.name, Cond.methodLink RX6 222 yX1_greatest, Cond.instanceMethod yX1_greatest, Cond.selects RX1 yX1_greatest yX1_greatest, Cond.initialized RX1, Cond.code yX1_greatest cX1_greatest 8 (some .long), Cond.methodLink RX1 36 Lib.Math.min.name, Cond.fieldLink RX1 26 "ArcLight$Circles" "nodes" "I", Cond.fieldLink RX1 11 "ArcLight$Circles" "keys" "[[J"]
def wsL_head_r5 : List Cond := [Cond.constantLong RX1 50 (-9223372036854775808), Cond.methodLink RX1 30 yX0_size, Cond.instanceMethod yX0_size, Cond.selects RX0 yX0_size yX0_size, Cond.code yX0_size cX0_size 1 (some .int), Cond.methodLink RX1 42 yX0_get, Cond.instanceMethod yX0_get, Cond.selects RX0 yX0_get yX0_get, Cond.code yX0_get cX0_get 3 (some .long), Cond.methodLink RX1 46 yX1_takeGreatest, Cond.instanceMethod yX1_takeGreatest, Cond.selects RX1 yX1_takeGreatest yX1_takeGreatest, Cond.code yX1_takeGreatest cX1_takeGreatest 5 (some .long), Cond.fieldLink RX1 19 "ArcLight$Circles" "taken" "[I", Cond.methodLink RX1 59 yX1_takenKey, Cond.instanceMethod yX1_takenKey, Cond.selects RX1 yX1_takenKey yX1_takenKey, Cond.code yX1_takenKey cX1_takenKey 3 (some .long), Cond.methodLink RX1 63 yX1_takenHead, Cond.instanceMethod yX1_takenHead, Cond.selects RX1 yX1_takenHead yX1_takenHead, Cond.code yX1_takenHead cX1_takenHead 2 (some .int), Cond.methodLink RX1 52 yX1_findCircle, Cond.instanceMethod yX1_findCircle]
def wsL_head_r6 : List Cond := [Cond.selects RX1 yX1_findCircle yX1_findCircle, Cond.code yX1_findCircle cX1_findCircle 4 (some .int), Cond.methodLink RX1 55 yX1_contract, Cond.instanceMethod yX1_contract, Cond.selects RX1 yX1_contract yX1_contract, Cond.code yX1_contract cX1_contract 7 none, Cond.fieldLink RX1 16 "ArcLight$Circles" "contracted" "[[J", Cond.fieldLink RX1 23 "ArcLight$Circles" "groups" "[I", Cond.methodLink RX1 71 yX1_groupNodes, Cond.instanceMethod yX1_groupNodes, Cond.selects RX1 yX1_groupNodes yX1_groupNodes, Cond.code yX1_groupNodes cX1_groupNodes 5 (some .int), Cond.methodLink RX1 84 yJ7_fill_53178, Cond.static yJ7_fill_53178, Cond.initialized RJ7, Cond.code yJ7_fill_53178 cJ7_fill_53178 4 none, Cond.methodLink RX1 74 yJ7_fill_d0a16, Cond.static yJ7_fill_d0a16, Cond.code yJ7_fill_d0a16 cJ7_fill_d0a16 5 none, Cond.methodLink RX1 80 yX1_offer, Cond.instanceMethod yX1_offer, Cond.selects RX1 yX1_offer yX1_offer, Cond.code yX1_offer cX1_offer 5 none, Cond.methodLink RX6 225 yX3_greatest]
def wsL_head_r7 : List Cond := [Cond.instanceMethod yX3_greatest, Cond.selects RX3 yX3_greatest yX3_greatest, Cond.initialized RX3, Cond.code yX3_greatest cX3_greatest 5 (some .long), Cond.methodLink RX3 31 Lib.Math.min.name, Cond.fieldLink RX3 11 "ArcLight$Spans" "wholeFromLeft" "[[J", Cond.fieldLink RX3 16 "ArcLight$Spans" "wholeFromRight" "[[J", Cond.constantLong RX3 45 (-9223372036854775808), Cond.methodLink RX3 25 yX0_size, Cond.methodLink RX3 37 yX3_fillOpen, Cond.instanceMethod yX3_fillOpen, Cond.selects RX3 yX3_fillOpen yX3_fillOpen, Cond.code yX3_fillOpen cX3_fillOpen 7 none, Cond.methodLink RX3 55 Lib.MathLoose.max_long.x, Cond.static Lib.MathLoose.max_long.x, Cond.code Lib.MathLoose.max_long.x Lib.MathLoose.max_long.code 4 (some .long), Cond.fieldLink RX3 19 "ArcLight$Spans" "openFromLeft" "[[J", Cond.fieldLink RX3 22 "ArcLight$Spans" "openFromRight" "[[J", Cond.methodLink RX3 51 yX3_join, Cond.static yX3_join, Cond.code yX3_join cX3_join 4 (some .long), Cond.methodLink RX3 58 yX0_get, Cond.methodLink RX3 41 yX3_fillWhole, Cond.instanceMethod yX3_fillWhole]
def wsL_head_r8 : List Cond := [Cond.selects RX3 yX3_fillWhole yX3_fillWhole, Cond.code yX3_fillWhole cX3_fillWhole 8 none, Cond.methodLink RX6 147 yX6_checkTree, Cond.static yX6_checkTree, Cond.code yX6_checkTree cX6_checkTree 2 none, Cond.classLink RX6 54 "java/lang/IllegalStateException", Cond.initialized "java/lang/IllegalStateException", Cond.constantLong RX6 210 (-9223372036854775808), Cond.methodLink RX6 151 yX6_headIn, Cond.static yX6_headIn, Cond.code yX6_headIn cX6_headIn 6 (some .int), Cond.constantLong RX6 244 (7), Cond.methodLink RX6 240 yX6_rowOfHeads, Cond.static yX6_rowOfHeads, Cond.code yX6_rowOfHeads cX6_rowOfHeads 2 (some .long), Cond.constantLong RX6 232 (117649), Cond.methodLink RX6 234 yJ9_floorMod_f86c9, Cond.static yJ9_floorMod_f86c9, Cond.initialized RJ9, Cond.code yJ9_floorMod_f86c9 cJ9_floorMod_f86c9 6 (some .long)]
def wsL_head : List Cond := .codeWith yL_head cL_head 6 (some .int) [(0, 12, 15, 19), (0, 12, 19, 13)] :: ((wsL_head_r1 ++ (wsL_head_r2 ++ (wsL_head_r3 ++ (wsL_head_r4 ++ (wsL_head_r5 ++ (wsL_head_r6 ++ (wsL_head_r7 ++ wsL_head_r8))))))) ++ wsX60 ++ wsX20 ++ wsX00 ++ wsX50 ++ wsX10 ++ wsX30 ++ (vx_atS RX6 201 "java/lang/IndexOutOfBoundsException" ["java/lang/RuntimeException", "java/lang/Exception"]).filter goodWord ++ (vx_atS RX6 58 "java/lang/IllegalStateException" ["java/lang/RuntimeException", "java/lang/Exception"]).filter goodWord)
def wsL_crossings_r1 : List Cond := [Cond.classLink RL 19 "java/lang/IndexOutOfBoundsException", Cond.classLink RL 13 "java/lang/IllegalStateException", Cond.methodLink RL 62 yX6_crossings, Cond.instanceMethod yX6_crossings, Cond.selects RX6 yX6_crossings yX6_crossings, Cond.initialized RX6, Cond.code yX6_crossings cX6_crossings 8 (some .int), Cond.methodLink RX6 62 yX6_find, Cond.instanceMethod yX6_find, Cond.selects RX6 yX6_find yX6_find, Cond.code yX6_find cX6_find 3 (some (.object "ArcLight$Sentence")), Cond.classLink RX6 197 "java/lang/IndexOutOfBoundsException", Cond.initialized "java/lang/IndexOutOfBoundsException", Cond.fieldLink RX6 11 "ArcLight" "all" "[LArcLight$Sentence;", Cond.methodLink RX6 135 yX6_bestKey, Cond.instanceMethod yX6_bestKey, Cond.selects RX6 yX6_bestKey yX6_bestKey, Cond.code yX6_bestKey cX6_bestKey 5 (some .long), Cond.fieldLink RX6 29 "ArcLight" "arcs" "LArcLight$ArcKeys;", Cond.fieldLink RX6 22 "ArcLight" "weights" "LArcLight$Weights;", Cond.fieldLink RX6 43 "ArcLight" "circles" "LArcLight$Circles;", Cond.fieldLink RX6 36 "ArcLight" "spans" "LArcLight$Spans;", Cond.methodLink RX6 214 yX0_fill, Cond.instanceMethod yX0_fill]
def wsL_crossings_r2 : List Cond := [Cond.selects RX0 yX0_fill yX0_fill, Cond.initialized RX0, Cond.code yX0_fill cX0_fill 5 none, Cond.methodLink RX0 26 Lib.Math.min.name, Cond.static Lib.Math.min.name, Cond.initialized "java/lang/Math", Cond.code Lib.Math.min.name Lib.Math.min.code 2 (some .int), Cond.fieldLink RX0 16 "ArcLight$ArcKeys" "last" "I", Cond.fieldLink RX0 11 "ArcLight$ArcKeys" "keys" "[[J", Cond.constantLong RX0 32 (-9223372036854775808), Cond.constantLong RX0 44 (117649), Cond.methodLink RX0 20 yX2_size, Cond.instanceMethod yX2_size, Cond.selects RX2 yX2_size yX2_size, Cond.initialized RX2, Cond.code yX2_size cX2_size 1 (some .int), Cond.fieldLink RX2 23 "ArcLight$Sentence" "last" "I", Cond.methodLink RX0 34 yX2_allows, Cond.instanceMethod yX2_allows, Cond.selects RX2 yX2_allows yX2_allows, Cond.code yX2_allows cX2_allows 4 (some .boolean), Cond.methodLink RX2 41 yX2_markOf, Cond.instanceMethod yX2_markOf, Cond.selects RX2 yX2_markOf yX2_markOf]
def wsL_crossings_r3 : List Cond := [Cond.code yX2_markOf cX2_markOf 3 (some .int), Cond.fieldLink RX2 20 "ArcLight$Sentence" "marks" "[[I", Cond.static yX6_isPlace, Cond.code yX6_isPlace cX6_isPlace 1 (some .boolean), Cond.methodLink RX2 45 yX2_forcedHead, Cond.instanceMethod yX2_forcedHead, Cond.selects RX2 yX2_forcedHead yX2_forcedHead, Cond.code yX2_forcedHead cX2_forcedHead 3 (some .int), Cond.methodLink RX0 38 yX5_ofArc, Cond.instanceMethod yX5_ofArc, Cond.selects RX5 yX5_ofArc yX5_ofArc, Cond.initialized RX5, Cond.code yX5_ofArc cX5_ofArc 4 (some .int), Cond.methodLink RX5 46 yX2_byKinds, Cond.instanceMethod yX2_byKinds, Cond.selects RX2 yX2_byKinds yX2_byKinds, Cond.code yX2_byKinds cX2_byKinds 3 (some .int), Cond.methodLink RX2 37 yX2_kindAt, Cond.instanceMethod yX2_kindAt, Cond.selects RX2 yX2_kindAt yX2_kindAt, Cond.code yX2_kindAt cX2_kindAt 2 (some .int), Cond.fieldLink RX2 9 "ArcLight$Sentence" "kinds" "[I", Cond.methodLink RX5 52 yX5_get, Cond.instanceMethod yX5_get]
def wsL_crossings_r4 : List Cond := [Cond.selects RX5 yX5_get yX5_get, Cond.code yX5_get cX5_get 2 (some .int), Cond.fieldLink RX5 9 "ArcLight$Weights" "now" "[I", Cond.methodLink RX5 42 yX5_isFeature, Cond.static yX5_isFeature, Cond.code yX5_isFeature cX5_isFeature 1 (some .boolean), Cond.static yX6_byDistance, Cond.code yX6_byDistance cX6_byDistance 3 (some .int), Cond.methodLink RX6 246 Lib.Math.abs.name, Cond.static Lib.Math.abs.name, Cond.code Lib.Math.abs.name Lib.Math.abs.code 1 (some .int), Cond.methodLink RX6 249 Lib.Math.min.name, Cond.methodLink RX6 222 yX1_greatest, Cond.instanceMethod yX1_greatest, Cond.selects RX1 yX1_greatest yX1_greatest, Cond.initialized RX1, Cond.code yX1_greatest cX1_greatest 8 (some .long), Cond.methodLink RX1 36 Lib.Math.min.name, Cond.fieldLink RX1 26 "ArcLight$Circles" "nodes" "I", Cond.fieldLink RX1 11 "ArcLight$Circles" "keys" "[[J", Cond.constantLong RX1 50 (-9223372036854775808), Cond.methodLink RX1 30 yX0_size, Cond.instanceMethod yX0_size, Cond.selects RX0 yX0_size yX0_size]
def wsL_crossings_r5 : List Cond := [Cond.code yX0_size cX0_size 1 (some .int), Cond.methodLink RX1 42 yX0_get, Cond.instanceMethod yX0_get, Cond.selects RX0 yX0_get yX0_get, Cond.code yX0_get cX0_get 3 (some .long), Cond.methodLink RX1 46 yX1_takeGreatest, Cond.instanceMethod yX1_takeGreatest, Cond.selects RX1 yX1_takeGreatest yX1_takeGreatest, Cond.code yX1_takeGreatest cX1_takeGreatest 5 (some .long), Cond.fieldLink RX1 19 "ArcLight$Circles" "taken" "[I", Cond.methodLink RX1 59 yX1_takenKey, Cond.instanceMethod yX1_takenKey, Cond.selects RX1 yX1_takenKey yX1_takenKey, Cond.code yX1_takenKey cX1_takenKey 3 (some .long), Cond.methodLink RX1 63 yX1_takenHead, Cond.instanceMethod yX1_takenHead, Cond.selects RX1 yX1_takenHead yX1_takenHead, Cond.code yX1_takenHead cX1_takenHead 2 (some .int), Cond.methodLink RX1 52 yX1_findCircle, Cond.instanceMethod yX1_findCircle, Cond.selects RX1 yX1_findCircle yX1_findCircle, Cond.code yX1_findCircle cX1_findCircle 4 (some .int), Cond.methodLink RX1 55 yX1_contract, Cond.instanceMethod yX1_contract]
def wsL_crossings_r6 : List Cond := [Cond.selects RX1 yX1_contract yX1_contract, Cond.code yX1_contract cX1_contract 7 none, Cond.fieldLink RX1 16 "ArcLight$Circles" "contracted" "[[J", Cond.fieldLink RX1 23 "ArcLight$Circles" "groups" "[I", Cond.methodLink RX1 71 yX1_groupNodes, Cond.instanceMethod yX1_groupNodes, Cond.selects RX1 yX1_groupNodes yX1_groupNodes, Cond.code yX1_groupNodes cX1_groupNodes 5 (some .int), Cond.methodLink RX1 84 yJ7_fill_53178, Cond.static yJ7_fill_53178, Cond.initialized RJ7, Cond.code yJ7_fill_53178 cJ7_fill_53178 4 none, Cond.methodLink RX1 74 yJ7_fill_d0a16, Cond.static yJ7_fill_d0a16, Cond.code yJ7_fill_d0a16 cJ7_fill_d0a16 5 none, Cond.methodLink RX1 80 yX1_offer, Cond.instanceMethod yX1_offer, Cond.selects RX1 yX1_offer yX1_offer, Cond.code yX1_offer cX1_offer 5 none, Cond.methodLink RX6 225 yX3_greatest, Cond.instanceMethod yX3_greatest, Cond.selects RX3 yX3_greatest yX3_greatest, Cond.initialized RX3, Cond.code yX3_greatest cX3_greatest 5 (some .long)]
def wsL_crossings_r7 : List Cond := [Cond.methodLink RX3 31 Lib.Math.min.name, Cond.fieldLink RX3 11 "ArcLight$Spans" "wholeFromLeft" "[[J", Cond.fieldLink RX3 16 "ArcLight$Spans" "wholeFromRight" "[[J", Cond.constantLong RX3 45 (-9223372036854775808), Cond.methodLink RX3 25 yX0_size, Cond.methodLink RX3 37 yX3_fillOpen, Cond.instanceMethod yX3_fillOpen, Cond.selects RX3 yX3_fillOpen yX3_fillOpen, Cond.code yX3_fillOpen cX3_fillOpen 7 none, Cond.methodLink RX3 55 Lib.MathLoose.max_long.x, Cond.static Lib.MathLoose.max_long.x, Cond.code Lib.MathLoose.max_long.x Lib.MathLoose.max_long.code 4 (some .long), Cond.fieldLink RX3 19 "ArcLight$Spans" "openFromLeft" "[[J", Cond.fieldLink RX3 22 "ArcLight$Spans" "openFromRight" "[[J", Cond.methodLink RX3 51 yX3_join, Cond.static yX3_join, Cond.code yX3_join cX3_join 4 (some .long), Cond.methodLink RX3 58 yX0_get, Cond.methodLink RX3 41 yX3_fillWhole, Cond.instanceMethod yX3_fillWhole, Cond.selects RX3 yX3_fillWhole yX3_fillWhole, Cond.code yX3_fillWhole cX3_fillWhole 8 none, Cond.methodLink RX6 147 yX6_checkTree, Cond.static yX6_checkTree]
def wsL_crossings_r8 : List Cond := [Cond.code yX6_checkTree cX6_checkTree 2 none, Cond.classLink RX6 54 "java/lang/IllegalStateException", Cond.initialized "java/lang/IllegalStateException", Cond.constantLong RX6 210 (-9223372036854775808), Cond.methodLink RX6 71 yX2_size, Cond.methodLink RX6 151 yX6_headIn, Cond.static yX6_headIn, Cond.code yX6_headIn cX6_headIn 6 (some .int), Cond.constantLong RX6 244 (7), Cond.methodLink RX6 240 yX6_rowOfHeads, Cond.static yX6_rowOfHeads, Cond.code yX6_rowOfHeads cX6_rowOfHeads 2 (some .long), Cond.constantLong RX6 232 (117649), Cond.methodLink RX6 234 yJ9_floorMod_f86c9, Cond.static yJ9_floorMod_f86c9, Cond.initialized RJ9, Cond.code yJ9_floorMod_f86c9 cJ9_floorMod_f86c9 6 (some .long), Cond.methodLink RX6 155 yX6_doCross, Cond.static yX6_doCross, Cond.code yX6_doCross cX6_doCross 8 (some .boolean), Cond.methodLink RX6 252 Lib.Math.max.name, Cond.static Lib.Math.max.name, Cond.code Lib.Math.max.name Lib.Math.max.code 2 (some .int)]
def wsL_crossings : List Cond := .codeWith yL_crossings cL_crossings 4 (some .int) [(0, 9, 12, 19), (0, 9, 15, 13)] :: ((wsL_crossings_r1 ++ (wsL_crossings_r2 ++ (wsL_crossings_r3 ++ (wsL_crossings_r4 ++ (wsL_crossings_r5 ++ (wsL_crossings_r6 ++ (wsL_crossings_r7 ++ wsL_crossings_r8))))))) ++ wsX60 ++ wsX00 ++ wsX20 ++ wsX50 ++ wsX10 ++ wsX30 ++ (vx_atS RX6 201 "java/lang/IndexOutOfBoundsException" ["java/lang/RuntimeException", "java/lang/Exception"]).filter goodWord ++ (vx_atS RX6 58 "java/lang/IllegalStateException" ["java/lang/RuntimeException", "java/lang/Exception"]).filter goodWord)
def wsL_ranked_r1 : List Cond := [Cond.classLink RL 19 "java/lang/IndexOutOfBoundsException", Cond.methodLink RL 65 yX6_ranked, Cond.instanceMethod yX6_ranked, Cond.selects RX6 yX6_ranked yX6_ranked, Cond.initialized RX6, Cond.code yX6_ranked cX6_ranked 4 (some .int), Cond.methodLink RX6 62 yX6_find, Cond.instanceMethod yX6_find, Cond.selects RX6 yX6_find yX6_find, Cond.code yX6_find cX6_find 3 (some (.object "ArcLight$Sentence")), Cond.classLink RX6 197 "java/lang/IndexOutOfBoundsException", Cond.initialized "java/lang/IndexOutOfBoundsException", Cond.fieldLink RX6 11 "ArcLight" "all" "[LArcLight$Sentence;", Cond.methodLink RX6 159 yX6_rankedKey, Cond.instanceMethod yX6_rankedKey, Cond.selects RX6 yX6_rankedKey yX6_rankedKey, Cond.code yX6_rankedKey cX6_rankedKey 5 (some .long), Cond.methodLink RX6 130 yX6_tryAll, Cond.instanceMethod yX6_tryAll, Cond.selects RX6 yX6_tryAll yX6_tryAll, Cond.code yX6_tryAll cX6_tryAll 3 (some (.object "ArcLight$Trial")), Cond.fieldLink RX6 29 "ArcLight" "arcs" "LArcLight$ArcKeys;", Cond.fieldLink RX6 22 "ArcLight" "weights" "LArcLight$Weights;", Cond.fieldLink RX6 50 "ArcLight" "trial" "LArcLight$Trial;"]
def wsL_ranked_r2 : List Cond := [Cond.methodLink RX6 214 yX0_fill, Cond.instanceMethod yX0_fill, Cond.selects RX0 yX0_fill yX0_fill, Cond.initialized RX0, Cond.code yX0_fill cX0_fill 5 none, Cond.methodLink RX0 26 Lib.Math.min.name, Cond.static Lib.Math.min.name, Cond.initialized "java/lang/Math", Cond.code Lib.Math.min.name Lib.Math.min.code 2 (some .int), Cond.fieldLink RX0 16 "ArcLight$ArcKeys" "last" "I", Cond.fieldLink RX0 11 "ArcLight$ArcKeys" "keys" "[[J", Cond.constantLong RX0 32 (-9223372036854775808), Cond.constantLong RX0 44 (117649), Cond.methodLink RX0 20 yX2_size, Cond.instanceMethod yX2_size, Cond.selects RX2 yX2_size yX2_size, Cond.initialized RX2, Cond.code yX2_size cX2_size 1 (some .int), Cond.fieldLink RX2 23 "ArcLight$Sentence" "last" "I", Cond.methodLink RX0 34 yX2_allows, Cond.instanceMethod yX2_allows, Cond.selects RX2 yX2_allows yX2_allows, Cond.code yX2_allows cX2_allows 4 (some .boolean), Cond.methodLink RX2 41 yX2_markOf]
def wsL_ranked_r3 : List Cond := [Cond.instanceMethod yX2_markOf, Cond.selects RX2 yX2_markOf yX2_markOf, Cond.code yX2_markOf cX2_markOf 3 (some .int), Cond.fieldLink RX2 20 "ArcLight$Sentence" "marks" "[[I", Cond.static yX6_isPlace, Cond.code yX6_isPlace cX6_isPlace 1 (some .boolean), Cond.methodLink RX2 45 yX2_forcedHead, Cond.instanceMethod yX2_forcedHead, Cond.selects RX2 yX2_forcedHead yX2_forcedHead, Cond.code yX2_forcedHead cX2_forcedHead 3 (some .int), Cond.methodLink RX0 38 yX5_ofArc, Cond.instanceMethod yX5_ofArc, Cond.selects RX5 yX5_ofArc yX5_ofArc, Cond.initialized RX5, Cond.code yX5_ofArc cX5_ofArc 4 (some .int), Cond.methodLink RX5 46 yX2_byKinds, Cond.instanceMethod yX2_byKinds, Cond.selects RX2 yX2_byKinds yX2_byKinds, Cond.code yX2_byKinds cX2_byKinds 3 (some .int), Cond.methodLink RX2 37 yX2_kindAt, Cond.instanceMethod yX2_kindAt, Cond.selects RX2 yX2_kindAt yX2_kindAt, Cond.code yX2_kindAt cX2_kindAt 2 (some .int), Cond.fieldLink RX2 9 "ArcLight$Sentence" "kinds" "[I"]
def wsL_ranked_r4 : List Cond := [Cond.methodLink RX5 52 yX5_get, Cond.instanceMethod yX5_get, Cond.selects RX5 yX5_get yX5_get, Cond.code yX5_get cX5_get 2 (some .int), Cond.fieldLink RX5 9 "ArcLight$Weights" "now" "[I", Cond.methodLink RX5 42 yX5_isFeature, Cond.static yX5_isFeature, Cond.code yX5_isFeature cX5_isFeature 1 (some .boolean), Cond.static yX6_byDistance, Cond.code yX6_byDistance cX6_byDistance 3 (some .int), Cond.methodLink RX6 246 Lib.Math.abs.name, Cond.static Lib.Math.abs.name, Cond.code Lib.Math.abs.name Lib.Math.abs.code 1 (some .int), Cond.methodLink RX6 249 Lib.Math.min.name, Cond.methodLink RX6 218 yX4_run, Cond.instanceMethod yX4_run, Cond.selects RX4 yX4_run yX4_run, Cond.initialized RX4, Cond.code yX4_run cX4_run 3 none, Cond.fieldLink RX4 19 "ArcLight$Trial" "found" "I", Cond.methodLink RX4 23 yX4_giveHeads, Cond.static yX4_giveHeads, Cond.code yX4_giveHeads cX4_giveHeads 9 none, Cond.constantLong RX4 27 (-9223372036854775808)]
def wsL_ranked_r5 : List Cond := [Cond.fieldLink RX4 15 "ArcLight$Trial" "heads" "[I", Cond.methodLink RX4 52 yX0_size, Cond.instanceMethod yX0_size, Cond.selects RX0 yX0_size yX0_size, Cond.code yX0_size cX0_size 1 (some .int), Cond.methodLink RX4 58 yX4_note, Cond.instanceMethod yX4_note, Cond.selects RX4 yX4_note yX4_note, Cond.code yX4_note cX4_note 3 none, Cond.fieldLink RX4 9 "ArcLight$Trial" "keys" "[J", Cond.methodLink RX4 62 yX0_get, Cond.instanceMethod yX0_get, Cond.selects RX0 yX0_get yX0_get, Cond.code yX0_get cX0_get 3 (some .long), Cond.methodLink RX4 66 yX4_closesCircle, Cond.instanceMethod yX4_closesCircle, Cond.selects RX4 yX4_closesCircle yX4_closesCircle, Cond.code yX4_closesCircle cX4_closesCircle 5 (some .boolean), Cond.methodLink RX4 70 yX4_crossesEarlier, Cond.instanceMethod yX4_crossesEarlier, Cond.selects RX4 yX4_crossesEarlier yX4_crossesEarlier, Cond.code yX4_crossesEarlier cX4_crossesEarlier 4 (some .boolean), Cond.static yX6_doCross, Cond.code yX6_doCross cX6_doCross 8 (some .boolean)]
def wsL_ranked_r6 : List Cond := [Cond.methodLink RX6 252 Lib.Math.max.name, Cond.static Lib.Math.max.name, Cond.code Lib.Math.max.name Lib.Math.max.code 2 (some .int), Cond.methodLink RX6 134 yX4_size, Cond.instanceMethod yX4_size, Cond.selects RX4 yX4_size yX4_size, Cond.code yX4_size cX4_size 1 (some .int), Cond.methodLink RX6 228 yX4_ofRank, Cond.instanceMethod yX4_ofRank, Cond.selects RX4 yX4_ofRank yX4_ofRank, Cond.code yX4_ofRank cX4_ofRank 9 (some .long), Cond.constantLong RX4 43 (2), Cond.methodLink RX4 35 yX4_greatest, Cond.instanceMethod yX4_greatest, Cond.selects RX4 yX4_greatest yX4_greatest, Cond.code yX4_greatest cX4_greatest 4 (some .long), Cond.methodLink RX4 29 Lib.MathLoose.max_long.x, Cond.static Lib.MathLoose.max_long.x, Cond.code Lib.MathLoose.max_long.x Lib.MathLoose.max_long.code 4 (some .long), Cond.methodLink RX4 39 yX4_least, Cond.instanceMethod yX4_least, Cond.selects RX4 yX4_least yX4_least, Cond.code yX4_least cX4_least 6 (some .long), Cond.methodLink RX4 49 Lib.MathLoose.min_long.x]
def wsL_ranked_r7 : List Cond := [Cond.static Lib.MathLoose.min_long.x, Cond.code Lib.MathLoose.min_long.x Lib.MathLoose.min_long.code 4 (some .long), Cond.methodLink RX4 45 yX4_countAbove, Cond.instanceMethod yX4_countAbove, Cond.selects RX4 yX4_countAbove yX4_countAbove, Cond.code yX4_countAbove cX4_countAbove 5 (some .int), Cond.methodLink RX6 139 yX6_scoreIn, Cond.static yX6_scoreIn, Cond.code yX6_scoreIn cX6_scoreIn 2 (some .int), Cond.constantLong RX6 232 (117649), Cond.methodLink RX6 240 yX6_rowOfHeads, Cond.static yX6_rowOfHeads, Cond.code yX6_rowOfHeads cX6_rowOfHeads 2 (some .long), Cond.methodLink RX6 234 yJ9_floorMod_f86c9, Cond.static yJ9_floorMod_f86c9, Cond.initialized RJ9, Cond.code yJ9_floorMod_f86c9 cJ9_floorMod_f86c9 6 (some .long)]
def wsL_ranked : List Cond := .codeWith yL_ranked cL_ranked 6 (some .int) [(0, 12, 15, 19)] :: ((wsL_ranked_r1 ++ (wsL_ranked_r2 ++ (wsL_ranked_r3 ++ (wsL_ranked_r4 ++ (wsL_ranked_r5 ++ (wsL_ranked_r6 ++ wsL_ranked_r7)))))) ++ wsX60 ++ wsX00 ++ wsX20 ++ wsX50 ++ wsX40 ++ (vx_atS RX6 201 "java/lang/IndexOutOfBoundsException" ["java/lang/RuntimeException", "java/lang/Exception"]).filter goodWord)
def wsL_rankedHead_r1 : List Cond := [Cond.classLink RL 19 "java/lang/IndexOutOfBoundsException", Cond.methodLink RL 68 yX6_rankedHead, Cond.instanceMethod yX6_rankedHead, Cond.selects RX6 yX6_rankedHead yX6_rankedHead, Cond.initialized RX6, Cond.code yX6_rankedHead cX6_rankedHead 6 (some .int), Cond.methodLink RX6 62 yX6_find, Cond.instanceMethod yX6_find, Cond.selects RX6 yX6_find yX6_find, Cond.code yX6_find cX6_find 3 (some (.object "ArcLight$Sentence")), Cond.classLink RX6 197 "java/lang/IndexOutOfBoundsException", Cond.initialized "java/lang/IndexOutOfBoundsException", Cond.fieldLink RX6 11 "ArcLight" "all" "[LArcLight$Sentence;", Cond.methodLink RX6 81 yX6_checkWord, Cond.static yX6_checkWord, Cond.code yX6_checkWord cX6_checkWord 2 none, Cond.methodLink RX6 71 yX2_size, Cond.instanceMethod yX2_size, Cond.selects RX2 yX2_size yX2_size, Cond.initialized RX2, Cond.code yX2_size cX2_size 1 (some .int), Cond.fieldLink RX2 23 "ArcLight$Sentence" "last" "I", Cond.methodLink RX6 159 yX6_rankedKey, Cond.instanceMethod yX6_rankedKey]
def wsL_rankedHead_r2 : List Cond := [Cond.selects RX6 yX6_rankedKey yX6_rankedKey, Cond.code yX6_rankedKey cX6_rankedKey 5 (some .long), Cond.methodLink RX6 130 yX6_tryAll, Cond.instanceMethod yX6_tryAll, Cond.selects RX6 yX6_tryAll yX6_tryAll, Cond.code yX6_tryAll cX6_tryAll 3 (some (.object "ArcLight$Trial")), Cond.fieldLink RX6 29 "ArcLight" "arcs" "LArcLight$ArcKeys;", Cond.fieldLink RX6 22 "ArcLight" "weights" "LArcLight$Weights;", Cond.fieldLink RX6 50 "ArcLight" "trial" "LArcLight$Trial;", Cond.methodLink RX6 214 yX0_fill, Cond.instanceMethod yX0_fill, Cond.selects RX0 yX0_fill yX0_fill, Cond.initialized RX0, Cond.code yX0_fill cX0_fill 5 none, Cond.methodLink RX0 26 Lib.Math.min.name, Cond.static Lib.Math.min.name, Cond.initialized "java/lang/Math", Cond.code Lib.Math.min.name Lib.Math.min.code 2 (some .int), Cond.fieldLink RX0 16 "ArcLight$ArcKeys" "last" "I", Cond.fieldLink RX0 11 "ArcLight$ArcKeys" "keys" "[[J", Cond.constantLong RX0 32 (-9223372036854775808), Cond.constantLong RX0 44 (117649), Cond.methodLink RX0 20 yX2_size, Cond.methodLink RX0 34 yX2_allows]
def wsL_rankedHead_r3 : List Cond := [Cond.instanceMethod yX2_allows, Cond.selects RX2 yX2_allows yX2_allows, Cond.code yX2_allows cX2_allows 4 (some .boolean), Cond.methodLink RX2 41 yX2_markOf, Cond.instanceMethod yX2_markOf, Cond.selects RX2 yX2_markOf yX2_markOf, Cond.code yX2_markOf cX2_markOf 3 (some .int), Cond.fieldLink RX2 20 "ArcLight$Sentence" "marks" "[[I", Cond.static yX6_isPlace, Cond.code yX6_isPlace cX6_isPlace 1 (some .boolean), Cond.methodLink RX2 45 yX2_forcedHead, Cond.instanceMethod yX2_forcedHead, Cond.selects RX2 yX2_forcedHead yX2_forcedHead, Cond.code yX2_forcedHead cX2_forcedHead 3 (some .int), Cond.methodLink RX0 38 yX5_ofArc, Cond.instanceMethod yX5_ofArc, Cond.selects RX5 yX5_ofArc yX5_ofArc, Cond.initialized RX5, Cond.code yX5_ofArc cX5_ofArc 4 (some .int), Cond.methodLink RX5 46 yX2_byKinds, Cond.instanceMethod yX2_byKinds, Cond.selects RX2 yX2_byKinds yX2_byKinds, Cond.code yX2_byKinds cX2_byKinds 3 (some .int), Cond.methodLink RX2 37 yX2_kindAt]
def wsL_rankedHead_r4 : List Cond := [Cond.instanceMethod yX2_kindAt, Cond.selects RX2 yX2_kindAt yX2_kindAt, Cond.code yX2_kindAt cX2_kindAt 2 (some .int), Cond.fieldLink RX2 9 "ArcLight$Sentence" "kinds" "[I", Cond.methodLink RX5 52 yX5_get, Cond.instanceMethod yX5_get, Cond.selects RX5 yX5_get yX5_get, Cond.code yX5_get cX5_get 2 (some .int), Cond.fieldLink RX5 9 "ArcLight$Weights" "now" "[I", Cond.methodLink RX5 42 yX5_isFeature, Cond.static yX5_isFeature, Cond.code yX5_isFeature cX5_isFeature 1 (some .boolean), Cond.static yX6_byDistance, Cond.code yX6_byDistance cX6_byDistance 3 (some .int), Cond.methodLink RX6 246 Lib.Math.abs.name, Cond.static Lib.Math.abs.name, Cond.code Lib.Math.abs.name Lib.Math.abs.code 1 (some .int), Cond.methodLink RX6 249 Lib.Math.min.name, Cond.methodLink RX6 218 yX4_run, Cond.instanceMethod yX4_run, Cond.selects RX4 yX4_run yX4_run, Cond.initialized RX4, Cond.code yX4_run cX4_run 3 none, Cond.fieldLink RX4 19 "ArcLight$Trial" "found" "I"]
def wsL_rankedHead_r5 : List Cond := [Cond.methodLink RX4 23 yX4_giveHeads, Cond.static yX4_giveHeads, Cond.code yX4_giveHeads cX4_giveHeads 9 none, Cond.constantLong RX4 27 (-9223372036854775808), Cond.fieldLink RX4 15 "ArcLight$Trial" "heads" "[I", Cond.methodLink RX4 52 yX0_size, Cond.instanceMethod yX0_size, Cond.selects RX0 yX0_size yX0_size, Cond.code yX0_size cX0_size 1 (some .int), Cond.methodLink RX4 58 yX4_note, Cond.instanceMethod yX4_note, Cond.selects RX4 yX4_note yX4_note, Cond.code yX4_note cX4_note 3 none, Cond.fieldLink RX4 9 "ArcLight$Trial" "keys" "[J", Cond.methodLink RX4 62 yX0_get, Cond.instanceMethod yX0_get, Cond.selects RX0 yX0_get yX0_get, Cond.code yX0_get cX0_get 3 (some .long), Cond.methodLink RX4 66 yX4_closesCircle, Cond.instanceMethod yX4_closesCircle, Cond.selects RX4 yX4_closesCircle yX4_closesCircle, Cond.code yX4_closesCircle cX4_closesCircle 5 (some .boolean), Cond.methodLink RX4 70 yX4_crossesEarlier, Cond.instanceMethod yX4_crossesEarlier]
def wsL_rankedHead_r6 : List Cond := [Cond.selects RX4 yX4_crossesEarlier yX4_crossesEarlier, Cond.code yX4_crossesEarlier cX4_crossesEarlier 4 (some .boolean), Cond.static yX6_doCross, Cond.code yX6_doCross cX6_doCross 8 (some .boolean), Cond.methodLink RX6 252 Lib.Math.max.name, Cond.static Lib.Math.max.name, Cond.code Lib.Math.max.name Lib.Math.max.code 2 (some .int), Cond.methodLink RX6 134 yX4_size, Cond.instanceMethod yX4_size, Cond.selects RX4 yX4_size yX4_size, Cond.code yX4_size cX4_size 1 (some .int), Cond.methodLink RX6 228 yX4_ofRank, Cond.instanceMethod yX4_ofRank, Cond.selects RX4 yX4_ofRank yX4_ofRank, Cond.code yX4_ofRank cX4_ofRank 9 (some .long), Cond.constantLong RX4 43 (2), Cond.methodLink RX4 35 yX4_greatest, Cond.instanceMethod yX4_greatest, Cond.selects RX4 yX4_greatest yX4_greatest, Cond.code yX4_greatest cX4_greatest 4 (some .long), Cond.methodLink RX4 29 Lib.MathLoose.max_long.x, Cond.static Lib.MathLoose.max_long.x, Cond.code Lib.MathLoose.max_long.x Lib.MathLoose.max_long.code 4 (some .long), Cond.methodLink RX4 39 yX4_least]
def wsL_rankedHead_r7 : List Cond := [Cond.instanceMethod yX4_least, Cond.selects RX4 yX4_least yX4_least, Cond.code yX4_least cX4_least 6 (some .long), Cond.methodLink RX4 49 Lib.MathLoose.min_long.x, Cond.static Lib.MathLoose.min_long.x, Cond.code Lib.MathLoose.min_long.x Lib.MathLoose.min_long.code 4 (some .long), Cond.methodLink RX4 45 yX4_countAbove, Cond.instanceMethod yX4_countAbove, Cond.selects RX4 yX4_countAbove yX4_countAbove, Cond.code yX4_countAbove cX4_countAbove 5 (some .int), Cond.methodLink RX6 151 yX6_headIn, Cond.static yX6_headIn, Cond.code yX6_headIn cX6_headIn 6 (some .int), Cond.constantLong RX6 244 (7), Cond.methodLink RX6 240 yX6_rowOfHeads, Cond.static yX6_rowOfHeads, Cond.code yX6_rowOfHeads cX6_rowOfHeads 2 (some .long), Cond.constantLong RX6 232 (117649), Cond.methodLink RX6 234 yJ9_floorMod_f86c9, Cond.static yJ9_floorMod_f86c9, Cond.initialized RJ9, Cond.code yJ9_floorMod_f86c9 cJ9_floorMod_f86c9 6 (some .long)]
def wsL_rankedHead : List Cond := .codeWith yL_rankedHead cL_rankedHead 7 (some .int) [(0, 14, 17, 19)] :: ((wsL_rankedHead_r1 ++ (wsL_rankedHead_r2 ++ (wsL_rankedHead_r3 ++ (wsL_rankedHead_r4 ++ (wsL_rankedHead_r5 ++ (wsL_rankedHead_r6 ++ wsL_rankedHead_r7)))))) ++ wsX60 ++ wsX20 ++ wsX00 ++ wsX50 ++ wsX40 ++ (vx_atS RX6 201 "java/lang/IndexOutOfBoundsException" ["java/lang/RuntimeException", "java/lang/Exception"]).filter goodWord)
def wsL_correct_r1 : List Cond := [Cond.classLink RL 19 "java/lang/IndexOutOfBoundsException", Cond.classLink RL 21 "java/lang/IllegalArgumentException", Cond.methodLink RL 72 yX6_correct, Cond.instanceMethod yX6_correct, Cond.selects RX6 yX6_correct yX6_correct, Cond.initialized RX6, Cond.code yX6_correct cX6_correct 5 (some .int), Cond.methodLink RX6 62 yX6_find, Cond.instanceMethod yX6_find, Cond.selects RX6 yX6_find yX6_find, Cond.code yX6_find cX6_find 3 (some (.object "ArcLight$Sentence")), Cond.classLink RX6 197 "java/lang/IndexOutOfBoundsException", Cond.initialized "java/lang/IndexOutOfBoundsException", Cond.fieldLink RX6 11 "ArcLight" "all" "[LArcLight$Sentence;", Cond.methodLink RX6 104 yX6_checkArc, Cond.static yX6_checkArc, Cond.code yX6_checkArc cX6_checkArc 3 none, Cond.classLink RX6 66 "java/lang/IllegalArgumentException", Cond.initialized "java/lang/IllegalArgumentException", Cond.methodLink RX6 71 yX2_size, Cond.instanceMethod yX2_size, Cond.selects RX2 yX2_size yX2_size, Cond.initialized RX2, Cond.code yX2_size cX2_size 1 (some .int)]
def wsL_correct_r2 : List Cond := [Cond.fieldLink RX2 23 "ArcLight$Sentence" "last" "I", Cond.methodLink RX6 81 yX6_checkWord, Cond.static yX6_checkWord, Cond.code yX6_checkWord cX6_checkWord 2 none, Cond.methodLink RX6 163 yX2_changeRightHead, Cond.instanceMethod yX2_changeRightHead, Cond.selects RX2 yX2_changeRightHead yX2_changeRightHead, Cond.code yX2_changeRightHead cX2_changeRightHead 4 (some .int), Cond.fieldLink RX2 15 "ArcLight$Sentence" "rightHeads" "[I", Cond.methodLink RX2 48 yX2_rightHead, Cond.instanceMethod yX2_rightHead, Cond.selects RX2 yX2_rightHead yX2_rightHead, Cond.code yX2_rightHead cX2_rightHead 2 (some .int), Cond.static yX6_isPlace, Cond.code yX6_isPlace cX6_isPlace 1 (some .boolean)]
def wsL_correct : List Cond := .codeWith yL_correct cL_correct 6 (some .int) [(0, 12, 15, 19), (0, 12, 19, 21)] :: ((wsL_correct_r1 ++ wsL_correct_r2) ++ wsX60 ++ wsX20 ++ (vx_atS RX6 201 "java/lang/IndexOutOfBoundsException" ["java/lang/RuntimeException", "java/lang/Exception"]).filter goodWord ++ (vx_atS RX6 70 "java/lang/IllegalArgumentException" ["java/lang/RuntimeException", "java/lang/Exception"]).filter goodWord)
def wsL_matched_r1 : List Cond := [Cond.classLink RL 19 "java/lang/IndexOutOfBoundsException", Cond.classLink RL 13 "java/lang/IllegalStateException", Cond.methodLink RL 75 yX6_matched, Cond.instanceMethod yX6_matched, Cond.selects RX6 yX6_matched yX6_matched, Cond.initialized RX6, Cond.code yX6_matched cX6_matched 7 (some .int), Cond.methodLink RX6 62 yX6_find, Cond.instanceMethod yX6_find, Cond.selects RX6 yX6_find yX6_find, Cond.code yX6_find cX6_find 3 (some (.object "ArcLight$Sentence")), Cond.classLink RX6 197 "java/lang/IndexOutOfBoundsException", Cond.initialized "java/lang/IndexOutOfBoundsException", Cond.fieldLink RX6 11 "ArcLight" "all" "[LArcLight$Sentence;", Cond.methodLink RX6 135 yX6_bestKey, Cond.instanceMethod yX6_bestKey, Cond.selects RX6 yX6_bestKey yX6_bestKey, Cond.code yX6_bestKey cX6_bestKey 5 (some .long), Cond.fieldLink RX6 29 "ArcLight" "arcs" "LArcLight$ArcKeys;", Cond.fieldLink RX6 22 "ArcLight" "weights" "LArcLight$Weights;", Cond.fieldLink RX6 43 "ArcLight" "circles" "LArcLight$Circles;", Cond.fieldLink RX6 36 "ArcLight" "spans" "LArcLight$Spans;", Cond.methodLink RX6 214 yX0_fill, Cond.instanceMethod yX0_fill]
def wsL_matched_r2 : List Cond := [Cond.selects RX0 yX0_fill yX0_fill, Cond.initialized RX0, Cond.code yX0_fill cX0_fill 5 none, Cond.methodLink RX0 26 Lib.Math.min.name, Cond.static Lib.Math.min.name, Cond.initialized "java/lang/Math", Cond.code Lib.Math.min.name Lib.Math.min.code 2 (some .int), Cond.fieldLink RX0 16 "ArcLight$ArcKeys" "last" "I", Cond.fieldLink RX0 11 "ArcLight$ArcKeys" "keys" "[[J", Cond.constantLong RX0 32 (-9223372036854775808), Cond.constantLong RX0 44 (117649), Cond.methodLink RX0 20 yX2_size, Cond.instanceMethod yX2_size, Cond.selects RX2 yX2_size yX2_size, Cond.initialized RX2, Cond.code yX2_size cX2_size 1 (some .int), Cond.fieldLink RX2 23 "ArcLight$Sentence" "last" "I", Cond.methodLink RX0 34 yX2_allows, Cond.instanceMethod yX2_allows, Cond.selects RX2 yX2_allows yX2_allows, Cond.code yX2_allows cX2_allows 4 (some .boolean), Cond.methodLink RX2 41 yX2_markOf, Cond.instanceMethod yX2_markOf, Cond.selects RX2 yX2_markOf yX2_markOf]
def wsL_matched_r3 : List Cond := [Cond.code yX2_markOf cX2_markOf 3 (some .int), Cond.fieldLink RX2 20 "ArcLight$Sentence" "marks" "[[I", Cond.static yX6_isPlace, Cond.code yX6_isPlace cX6_isPlace 1 (some .boolean), Cond.methodLink RX2 45 yX2_forcedHead, Cond.instanceMethod yX2_forcedHead, Cond.selects RX2 yX2_forcedHead yX2_forcedHead, Cond.code yX2_forcedHead cX2_forcedHead 3 (some .int), Cond.methodLink RX0 38 yX5_ofArc, Cond.instanceMethod yX5_ofArc, Cond.selects RX5 yX5_ofArc yX5_ofArc, Cond.initialized RX5, Cond.code yX5_ofArc cX5_ofArc 4 (some .int), Cond.methodLink RX5 46 yX2_byKinds, Cond.instanceMethod yX2_byKinds, Cond.selects RX2 yX2_byKinds yX2_byKinds, Cond.code yX2_byKinds cX2_byKinds 3 (some .int), Cond.methodLink RX2 37 yX2_kindAt, Cond.instanceMethod yX2_kindAt, Cond.selects RX2 yX2_kindAt yX2_kindAt, Cond.code yX2_kindAt cX2_kindAt 2 (some .int), Cond.fieldLink RX2 9 "ArcLight$Sentence" "kinds" "[I", Cond.methodLink RX5 52 yX5_get, Cond.instanceMethod yX5_get]
def wsL_matched_r4 : List Cond := [Cond.selects RX5 yX5_get yX5_get, Cond.code yX5_get cX5_get 2 (some .int), Cond.fieldLink RX5 9 "ArcLight$Weights" "now" "[I", Cond.methodLink RX5 42 yX5_isFeature, Cond.static yX5_isFeature, Cond.code yX5_isFeature cX5_isFeature 1 (some .boolean), Cond.static yX6_byDistance, Cond.code yX6_byDistance cX6_byDistance 3 (some .int), Cond.methodLink RX6 246 Lib.Math.abs.name, Cond.static Lib.Math.abs.name, Cond.code Lib.Math.abs.name Lib.Math.abs.code 1 (some .int), Cond.methodLink RX6 249 Lib.Math.min.name, Cond.methodLink RX6 222 yX1_greatest, Cond.instanceMethod yX1_greatest, Cond.selects RX1 yX1_greatest yX1_greatest, Cond.initialized RX1, Cond.code yX1_greatest cX1_greatest 8 (some .long), Cond.methodLink RX1 36 Lib.Math.min.name, Cond.fieldLink RX1 26 "ArcLight$Circles" "nodes" "I", Cond.fieldLink RX1 11 "ArcLight$Circles" "keys" "[[J", Cond.constantLong RX1 50 (-9223372036854775808), Cond.methodLink RX1 30 yX0_size, Cond.instanceMethod yX0_size, Cond.selects RX0 yX0_size yX0_size]
def wsL_matched_r5 : List Cond := [Cond.code yX0_size cX0_size 1 (some .int), Cond.methodLink RX1 42 yX0_get, Cond.instanceMethod yX0_get, Cond.selects RX0 yX0_get yX0_get, Cond.code yX0_get cX0_get 3 (some .long), Cond.methodLink RX1 46 yX1_takeGreatest, Cond.instanceMethod yX1_takeGreatest, Cond.selects RX1 yX1_takeGreatest yX1_takeGreatest, Cond.code yX1_takeGreatest cX1_takeGreatest 5 (some .long), Cond.fieldLink RX1 19 "ArcLight$Circles" "taken" "[I", Cond.methodLink RX1 59 yX1_takenKey, Cond.instanceMethod yX1_takenKey, Cond.selects RX1 yX1_takenKey yX1_takenKey, Cond.code yX1_takenKey cX1_takenKey 3 (some .long), Cond.methodLink RX1 63 yX1_takenHead, Cond.instanceMethod yX1_takenHead, Cond.selects RX1 yX1_takenHead yX1_takenHead, Cond.code yX1_takenHead cX1_takenHead 2 (some .int), Cond.methodLink RX1 52 yX1_findCircle, Cond.instanceMethod yX1_findCircle, Cond.selects RX1 yX1_findCircle yX1_findCircle, Cond.code yX1_findCircle cX1_findCircle 4 (some .int), Cond.methodLink RX1 55 yX1_contract, Cond.instanceMethod yX1_contract]
def wsL_matched_r6 : List Cond := [Cond.selects RX1 yX1_contract yX1_contract, Cond.code yX1_contract cX1_contract 7 none, Cond.fieldLink RX1 16 "ArcLight$Circles" "contracted" "[[J", Cond.fieldLink RX1 23 "ArcLight$Circles" "groups" "[I", Cond.methodLink RX1 71 yX1_groupNodes, Cond.instanceMethod yX1_groupNodes, Cond.selects RX1 yX1_groupNodes yX1_groupNodes, Cond.code yX1_groupNodes cX1_groupNodes 5 (some .int), Cond.methodLink RX1 84 yJ7_fill_53178, Cond.static yJ7_fill_53178, Cond.initialized RJ7, Cond.code yJ7_fill_53178 cJ7_fill_53178 4 none, Cond.methodLink RX1 74 yJ7_fill_d0a16, Cond.static yJ7_fill_d0a16, Cond.code yJ7_fill_d0a16 cJ7_fill_d0a16 5 none, Cond.methodLink RX1 80 yX1_offer, Cond.instanceMethod yX1_offer, Cond.selects RX1 yX1_offer yX1_offer, Cond.code yX1_offer cX1_offer 5 none, Cond.methodLink RX6 225 yX3_greatest, Cond.instanceMethod yX3_greatest, Cond.selects RX3 yX3_greatest yX3_greatest, Cond.initialized RX3, Cond.code yX3_greatest cX3_greatest 5 (some .long)]
def wsL_matched_r7 : List Cond := [Cond.methodLink RX3 31 Lib.Math.min.name, Cond.fieldLink RX3 11 "ArcLight$Spans" "wholeFromLeft" "[[J", Cond.fieldLink RX3 16 "ArcLight$Spans" "wholeFromRight" "[[J", Cond.constantLong RX3 45 (-9223372036854775808), Cond.methodLink RX3 25 yX0_size, Cond.methodLink RX3 37 yX3_fillOpen, Cond.instanceMethod yX3_fillOpen, Cond.selects RX3 yX3_fillOpen yX3_fillOpen, Cond.code yX3_fillOpen cX3_fillOpen 7 none, Cond.methodLink RX3 55 Lib.MathLoose.max_long.x, Cond.static Lib.MathLoose.max_long.x, Cond.code Lib.MathLoose.max_long.x Lib.MathLoose.max_long.code 4 (some .long), Cond.fieldLink RX3 19 "ArcLight$Spans" "openFromLeft" "[[J", Cond.fieldLink RX3 22 "ArcLight$Spans" "openFromRight" "[[J", Cond.methodLink RX3 51 yX3_join, Cond.static yX3_join, Cond.code yX3_join cX3_join 4 (some .long), Cond.methodLink RX3 58 yX0_get, Cond.methodLink RX3 41 yX3_fillWhole, Cond.instanceMethod yX3_fillWhole, Cond.selects RX3 yX3_fillWhole yX3_fillWhole, Cond.code yX3_fillWhole cX3_fillWhole 8 none, Cond.methodLink RX6 147 yX6_checkTree, Cond.static yX6_checkTree]
def wsL_matched_r8 : List Cond := [Cond.code yX6_checkTree cX6_checkTree 2 none, Cond.classLink RX6 54 "java/lang/IllegalStateException", Cond.initialized "java/lang/IllegalStateException", Cond.constantLong RX6 210 (-9223372036854775808), Cond.methodLink RX6 71 yX2_size, Cond.methodLink RX6 166 yX2_rightHead, Cond.instanceMethod yX2_rightHead, Cond.selects RX2 yX2_rightHead yX2_rightHead, Cond.code yX2_rightHead cX2_rightHead 2 (some .int), Cond.fieldLink RX2 15 "ArcLight$Sentence" "rightHeads" "[I", Cond.methodLink RX6 151 yX6_headIn, Cond.static yX6_headIn, Cond.code yX6_headIn cX6_headIn 6 (some .int), Cond.constantLong RX6 244 (7), Cond.methodLink RX6 240 yX6_rowOfHeads, Cond.static yX6_rowOfHeads, Cond.code yX6_rowOfHeads cX6_rowOfHeads 2 (some .long), Cond.constantLong RX6 232 (117649), Cond.methodLink RX6 234 yJ9_floorMod_f86c9, Cond.static yJ9_floorMod_f86c9, Cond.initialized RJ9, Cond.code yJ9_floorMod_f86c9 cJ9_floorMod_f86c9 6 (some .long)]
def wsL_matched : List Cond := .codeWith yL_matched cL_matched 4 (some .int) [(0, 9, 12, 19), (0, 9, 15, 13)] :: ((wsL_matched_r1 ++ (wsL_matched_r2 ++ (wsL_matched_r3 ++ (wsL_matched_r4 ++ (wsL_matched_r5 ++ (wsL_matched_r6 ++ (wsL_matched_r7 ++ wsL_matched_r8))))))) ++ wsX60 ++ wsX00 ++ wsX20 ++ wsX50 ++ wsX10 ++ wsX30 ++ (vx_atS RX6 201 "java/lang/IndexOutOfBoundsException" ["java/lang/RuntimeException", "java/lang/Exception"]).filter goodWord ++ (vx_atS RX6 58 "java/lang/IllegalStateException" ["java/lang/RuntimeException", "java/lang/Exception"]).filter goodWord)
def wsL_mend_r1 : List Cond := [Cond.classLink RL 19 "java/lang/IndexOutOfBoundsException", Cond.classLink RL 13 "java/lang/IllegalStateException", Cond.methodLink RL 78 yX6_mend, Cond.instanceMethod yX6_mend, Cond.selects RX6 yX6_mend yX6_mend, Cond.initialized RX6, Cond.code yX6_mend cX6_mend 9 (some .int), Cond.classLink RX6 54 "java/lang/IllegalStateException", Cond.initialized "java/lang/IllegalStateException", Cond.fieldLink RX6 22 "ArcLight" "weights" "LArcLight$Weights;", Cond.methodLink RX6 62 yX6_find, Cond.instanceMethod yX6_find, Cond.selects RX6 yX6_find yX6_find, Cond.code yX6_find cX6_find 3 (some (.object "ArcLight$Sentence")), Cond.classLink RX6 197 "java/lang/IndexOutOfBoundsException", Cond.initialized "java/lang/IndexOutOfBoundsException", Cond.fieldLink RX6 11 "ArcLight" "all" "[LArcLight$Sentence;", Cond.methodLink RX6 169 yX2_hasRightTree, Cond.instanceMethod yX2_hasRightTree, Cond.selects RX2 yX2_hasRightTree yX2_hasRightTree, Cond.initialized RX2, Cond.code yX2_hasRightTree cX2_hasRightTree 4 (some .boolean), Cond.fieldLink RX2 23 "ArcLight$Sentence" "last" "I", Cond.methodLink RX2 48 yX2_rightHead]
def wsL_mend_r2 : List Cond := [Cond.instanceMethod yX2_rightHead, Cond.selects RX2 yX2_rightHead yX2_rightHead, Cond.code yX2_rightHead cX2_rightHead 2 (some .int), Cond.fieldLink RX2 15 "ArcLight$Sentence" "rightHeads" "[I", Cond.static yX6_isPlace, Cond.code yX6_isPlace cX6_isPlace 1 (some .boolean), Cond.methodLink RX6 135 yX6_bestKey, Cond.instanceMethod yX6_bestKey, Cond.selects RX6 yX6_bestKey yX6_bestKey, Cond.code yX6_bestKey cX6_bestKey 5 (some .long), Cond.fieldLink RX6 29 "ArcLight" "arcs" "LArcLight$ArcKeys;", Cond.fieldLink RX6 43 "ArcLight" "circles" "LArcLight$Circles;", Cond.fieldLink RX6 36 "ArcLight" "spans" "LArcLight$Spans;", Cond.methodLink RX6 214 yX0_fill, Cond.instanceMethod yX0_fill, Cond.selects RX0 yX0_fill yX0_fill, Cond.initialized RX0, Cond.code yX0_fill cX0_fill 5 none, Cond.methodLink RX0 26 Lib.Math.min.name, Cond.static Lib.Math.min.name, Cond.initialized "java/lang/Math", Cond.code Lib.Math.min.name Lib.Math.min.code 2 (some .int), Cond.fieldLink RX0 16 "ArcLight$ArcKeys" "last" "I", Cond.fieldLink RX0 11 "ArcLight$ArcKeys" "keys" "[[J"]
def wsL_mend_r3 : List Cond := [Cond.constantLong RX0 32 (-9223372036854775808), Cond.constantLong RX0 44 (117649), Cond.methodLink RX0 20 yX2_size, Cond.instanceMethod yX2_size, Cond.selects RX2 yX2_size yX2_size, Cond.code yX2_size cX2_size 1 (some .int), Cond.methodLink RX0 34 yX2_allows, Cond.instanceMethod yX2_allows, Cond.selects RX2 yX2_allows yX2_allows, Cond.code yX2_allows cX2_allows 4 (some .boolean), Cond.methodLink RX2 41 yX2_markOf, Cond.instanceMethod yX2_markOf, Cond.selects RX2 yX2_markOf yX2_markOf, Cond.code yX2_markOf cX2_markOf 3 (some .int), Cond.fieldLink RX2 20 "ArcLight$Sentence" "marks" "[[I", Cond.methodLink RX2 45 yX2_forcedHead, Cond.instanceMethod yX2_forcedHead, Cond.selects RX2 yX2_forcedHead yX2_forcedHead, Cond.code yX2_forcedHead cX2_forcedHead 3 (some .int), Cond.methodLink RX0 38 yX5_ofArc, Cond.instanceMethod yX5_ofArc, Cond.selects RX5 yX5_ofArc yX5_ofArc, Cond.initialized RX5, Cond.code yX5_ofArc cX5_ofArc 4 (some .int)]
def wsL_mend_r4 : List Cond := [Cond.methodLink RX5 46 yX2_byKinds, Cond.instanceMethod yX2_byKinds, Cond.selects RX2 yX2_byKinds yX2_byKinds, Cond.code yX2_byKinds cX2_byKinds 3 (some .int), Cond.methodLink RX2 37 yX2_kindAt, Cond.instanceMethod yX2_kindAt, Cond.selects RX2 yX2_kindAt yX2_kindAt, Cond.code yX2_kindAt cX2_kindAt 2 (some .int), Cond.fieldLink RX2 9 "ArcLight$Sentence" "kinds" "[I", Cond.methodLink RX5 52 yX5_get, Cond.instanceMethod yX5_get, Cond.selects RX5 yX5_get yX5_get, Cond.code yX5_get cX5_get 2 (some .int), Cond.fieldLink RX5 9 "ArcLight$Weights" "now" "[I", Cond.methodLink RX5 42 yX5_isFeature, Cond.static yX5_isFeature, Cond.code yX5_isFeature cX5_isFeature 1 (some .boolean), Cond.static yX6_byDistance, Cond.code yX6_byDistance cX6_byDistance 3 (some .int), Cond.methodLink RX6 246 Lib.Math.abs.name, Cond.static Lib.Math.abs.name, Cond.code Lib.Math.abs.name Lib.Math.abs.code 1 (some .int), Cond.methodLink RX6 249 Lib.Math.min.name, Cond.methodLink RX6 222 yX1_greatest]
def wsL_mend_r5 : List Cond := [Cond.instanceMethod yX1_greatest, Cond.selects RX1 yX1_greatest yX1_greatest, Cond.initialized RX1, Cond.code yX1_greatest cX1_greatest 8 (some .long), Cond.methodLink RX1 36 Lib.Math.min.name, Cond.fieldLink RX1 26 "ArcLight$Circles" "nodes" "I", Cond.fieldLink RX1 11 "ArcLight$Circles" "keys" "[[J", Cond.constantLong RX1 50 (-9223372036854775808), Cond.methodLink RX1 30 yX0_size, Cond.instanceMethod yX0_size, Cond.selects RX0 yX0_size yX0_size, Cond.code yX0_size cX0_size 1 (some .int), Cond.methodLink RX1 42 yX0_get, Cond.instanceMethod yX0_get, Cond.selects RX0 yX0_get yX0_get, Cond.code yX0_get cX0_get 3 (some .long), Cond.methodLink RX1 46 yX1_takeGreatest, Cond.instanceMethod yX1_takeGreatest, Cond.selects RX1 yX1_takeGreatest yX1_takeGreatest, Cond.code yX1_takeGreatest cX1_takeGreatest 5 (some .long), Cond.fieldLink RX1 19 "ArcLight$Circles" "taken" "[I", Cond.methodLink RX1 59 yX1_takenKey, Cond.instanceMethod yX1_takenKey, Cond.selects RX1 yX1_takenKey yX1_takenKey]
def wsL_mend_r6 : List Cond := [Cond.code yX1_takenKey cX1_takenKey 3 (some .long), Cond.methodLink RX1 63 yX1_takenHead, Cond.instanceMethod yX1_takenHead, Cond.selects RX1 yX1_takenHead yX1_takenHead, Cond.code yX1_takenHead cX1_takenHead 2 (some .int), Cond.methodLink RX1 52 yX1_findCircle, Cond.instanceMethod yX1_findCircle, Cond.selects RX1 yX1_findCircle yX1_findCircle, Cond.code yX1_findCircle cX1_findCircle 4 (some .int), Cond.methodLink RX1 55 yX1_contract, Cond.instanceMethod yX1_contract, Cond.selects RX1 yX1_contract yX1_contract, Cond.code yX1_contract cX1_contract 7 none, Cond.fieldLink RX1 16 "ArcLight$Circles" "contracted" "[[J", Cond.fieldLink RX1 23 "ArcLight$Circles" "groups" "[I", Cond.methodLink RX1 71 yX1_groupNodes, Cond.instanceMethod yX1_groupNodes, Cond.selects RX1 yX1_groupNodes yX1_groupNodes, Cond.code yX1_groupNodes cX1_groupNodes 5 (some .int), Cond.methodLink RX1 84 yJ7_fill_53178, Cond.static yJ7_fill_53178, Cond.initialized RJ7, Cond.code yJ7_fill_53178 cJ7_fill_53178 4 none, Cond.methodLink RX1 74 yJ7_fill_d0a16]
def wsL_mend_r7 : List Cond := [Cond.static yJ7_fill_d0a16, Cond.code yJ7_fill_d0a16 cJ7_fill_d0a16 5 none, Cond.methodLink RX1 80 yX1_offer, Cond.instanceMethod yX1_offer, Cond.selects RX1 yX1_offer yX1_offer, Cond.code yX1_offer cX1_offer 5 none, Cond.methodLink RX6 225 yX3_greatest, Cond.instanceMethod yX3_greatest, Cond.selects RX3 yX3_greatest yX3_greatest, Cond.initialized RX3, Cond.code yX3_greatest cX3_greatest 5 (some .long), Cond.methodLink RX3 31 Lib.Math.min.name, Cond.fieldLink RX3 11 "ArcLight$Spans" "wholeFromLeft" "[[J", Cond.fieldLink RX3 16 "ArcLight$Spans" "wholeFromRight" "[[J", Cond.constantLong RX3 45 (-9223372036854775808), Cond.methodLink RX3 25 yX0_size, Cond.methodLink RX3 37 yX3_fillOpen, Cond.instanceMethod yX3_fillOpen, Cond.selects RX3 yX3_fillOpen yX3_fillOpen, Cond.code yX3_fillOpen cX3_fillOpen 7 none, Cond.methodLink RX3 55 Lib.MathLoose.max_long.x, Cond.static Lib.MathLoose.max_long.x, Cond.code Lib.MathLoose.max_long.x Lib.MathLoose.max_long.code 4 (some .long), Cond.fieldLink RX3 19 "ArcLight$Spans" "openFromLeft" "[[J"]
def wsL_mend_r8 : List Cond := [Cond.fieldLink RX3 22 "ArcLight$Spans" "openFromRight" "[[J", Cond.methodLink RX3 51 yX3_join, Cond.static yX3_join, Cond.code yX3_join cX3_join 4 (some .long), Cond.methodLink RX3 58 yX0_get, Cond.methodLink RX3 41 yX3_fillWhole, Cond.instanceMethod yX3_fillWhole, Cond.selects RX3 yX3_fillWhole yX3_fillWhole, Cond.code yX3_fillWhole cX3_fillWhole 8 none, Cond.methodLink RX6 147 yX6_checkTree, Cond.static yX6_checkTree, Cond.code yX6_checkTree cX6_checkTree 2 none, Cond.constantLong RX6 210 (-9223372036854775808), Cond.methodLink RX6 97 yX5_keep, Cond.instanceMethod yX5_keep, Cond.selects RX5 yX5_keep yX5_keep, Cond.code yX5_keep cX5_keep 1 none, Cond.fieldLink RX5 39 "ArcLight$Weights" "next" "I", Cond.fieldLink RX5 25 "ArcLight$Weights" "oldWeights" "[[I", Cond.methodLink RX5 66 arraycopyName, Cond.native arraycopyName, Cond.static arraycopyName, Cond.initialized "java/lang/System", Cond.fieldLink RX5 15 "ArcLight$Weights" "sums" "[J"]
def wsL_mend_r9 : List Cond := [Cond.fieldLink RX5 30 "ArcLight$Weights" "oldSums" "[[J", Cond.fieldLink RX5 33 "ArcLight$Weights" "oldSteps" "[I", Cond.fieldLink RX5 19 "ArcLight$Weights" "steps" "I", Cond.fieldLink RX5 36 "ArcLight$Weights" "kept" "I", Cond.methodLink RX5 72 Lib.Math.min.name, Cond.methodLink RX5 63 yX5_isRow, Cond.static yX5_isRow, Cond.code yX5_isRow cX5_isRow 1 (some .boolean), Cond.methodLink RX6 71 yX2_size, Cond.methodLink RX6 166 yX2_rightHead, Cond.methodLink RX6 151 yX6_headIn, Cond.static yX6_headIn, Cond.code yX6_headIn cX6_headIn 6 (some .int), Cond.constantLong RX6 244 (7), Cond.methodLink RX6 240 yX6_rowOfHeads, Cond.static yX6_rowOfHeads, Cond.code yX6_rowOfHeads cX6_rowOfHeads 2 (some .long), Cond.constantLong RX6 232 (117649), Cond.methodLink RX6 234 yJ9_floorMod_f86c9, Cond.static yJ9_floorMod_f86c9, Cond.initialized RJ9, Cond.code yJ9_floorMod_f86c9 cJ9_floorMod_f86c9 6 (some .long), Cond.methodLink RX6 175 yX5_addToArc, Cond.instanceMethod yX5_addToArc]
def wsL_mend_r10 : List Cond := [Cond.selects RX5 yX5_addToArc yX5_addToArc, Cond.code yX5_addToArc cX5_addToArc 7 none, Cond.methodLink RX5 59 yX5_put, Cond.instanceMethod yX5_put, Cond.selects RX5 yX5_put yX5_put, Cond.code yX5_put cX5_put 3 none, Cond.methodLink RX6 179 yX5_endStep, Cond.instanceMethod yX5_endStep, Cond.selects RX5 yX5_endStep yX5_endStep, Cond.code yX5_endStep cX5_endStep 2 none]
def wsL_mend : List Cond := .codeWith yL_mend cL_mend 4 (some .int) [(0, 9, 12, 19), (0, 9, 15, 13)] :: ((wsL_mend_r1 ++ (wsL_mend_r2 ++ (wsL_mend_r3 ++ (wsL_mend_r4 ++ (wsL_mend_r5 ++ (wsL_mend_r6 ++ (wsL_mend_r7 ++ (wsL_mend_r8 ++ (wsL_mend_r9 ++ wsL_mend_r10))))))))) ++ wsX60 ++ wsX20 ++ wsX00 ++ wsX50 ++ wsX10 ++ wsX30 ++ (vx_atS RX6 58 "java/lang/IllegalStateException" ["java/lang/RuntimeException", "java/lang/Exception"]).filter goodWord ++ (vx_atS RX6 201 "java/lang/IndexOutOfBoundsException" ["java/lang/RuntimeException", "java/lang/Exception"]).filter goodWord)
def wsL_average : List Cond := .codeWith yL_average cL_average 4 (some .int) [(0, 8, 11, 19)] :: ([.classLink RL 19 "java/lang/IndexOutOfBoundsException", .methodLink RL 81 yX6_average, .instanceMethod yX6_average, .selects RX6 yX6_average yX6_average, .initialized RX6, .code yX6_average cX6_average 2 (some .double), .fieldLink RX6 22 "ArcLight" "weights" "LArcLight$Weights;", .methodLink RX6 89 yX6_checkFeature, .static yX6_checkFeature, .code yX6_checkFeature cX6_checkFeature 1 none, .classLink RX6 197 "java/lang/IndexOutOfBoundsException", .initialized "java/lang/IndexOutOfBoundsException", .methodLink RX6 185 yX5_averageOf, .instanceMethod yX5_averageOf, .selects RX5 yX5_averageOf yX5_averageOf, .initialized RX5, .code yX5_averageOf cX5_averageOf 2 (some .double), .fieldLink RX5 19 "ArcLight$Weights" "steps" "I", .fieldLink RX5 15 "ArcLight$Weights" "sums" "[J", .methodLink RX5 42 yX5_isFeature, .static yX5_isFeature, .code yX5_isFeature cX5_isFeature 1 (some .boolean)] ++ wsX60 ++ wsX50 ++ (vx_atS RX6 201 "java/lang/IndexOutOfBoundsException" ["java/lang/RuntimeException", "java/lang/Exception"]).filter goodWord)
def wsL_rollBack_r1 : List Cond := [Cond.classLink RL 13 "java/lang/IllegalStateException", Cond.methodLink RL 85 yX6_rollBack, Cond.instanceMethod yX6_rollBack, Cond.selects RX6 yX6_rollBack yX6_rollBack, Cond.initialized RX6, Cond.code yX6_rollBack cX6_rollBack 1 (some .int), Cond.classLink RX6 54 "java/lang/IllegalStateException", Cond.initialized "java/lang/IllegalStateException", Cond.fieldLink RX6 22 "ArcLight" "weights" "LArcLight$Weights;", Cond.methodLink RX6 189 yX5_keptCount, Cond.instanceMethod yX5_keptCount, Cond.selects RX5 yX5_keptCount yX5_keptCount, Cond.initialized RX5, Cond.code yX5_keptCount cX5_keptCount 1 (some .int), Cond.fieldLink RX5 36 "ArcLight$Weights" "kept" "I", Cond.methodLink RX6 194 yX5_takeBack, Cond.instanceMethod yX5_takeBack, Cond.selects RX5 yX5_takeBack yX5_takeBack, Cond.code yX5_takeBack cX5_takeBack 2 none, Cond.fieldLink RX5 39 "ArcLight$Weights" "next" "I", Cond.fieldLink RX5 25 "ArcLight$Weights" "oldWeights" "[[I", Cond.fieldLink RX5 9 "ArcLight$Weights" "now" "[I", Cond.methodLink RX5 66 arraycopyName, Cond.native arraycopyName]
def wsL_rollBack_r2 : List Cond := [Cond.static arraycopyName, Cond.initialized "java/lang/System", Cond.fieldLink RX5 30 "ArcLight$Weights" "oldSums" "[[J", Cond.fieldLink RX5 15 "ArcLight$Weights" "sums" "[J", Cond.fieldLink RX5 33 "ArcLight$Weights" "oldSteps" "[I", Cond.fieldLink RX5 19 "ArcLight$Weights" "steps" "I", Cond.methodLink RX5 63 yX5_isRow, Cond.static yX5_isRow, Cond.code yX5_isRow cX5_isRow 1 (some .boolean)]
def wsL_rollBack : List Cond := .codeWith yL_rollBack cL_rollBack 3 (some .int) [(0, 8, 11, 13)] :: ((wsL_rollBack_r1 ++ wsL_rollBack_r2) ++ wsX60 ++ wsX50 ++ (vx_atS RX6 58 "java/lang/IllegalStateException" ["java/lang/RuntimeException", "java/lang/Exception"]).filter goodWord)
def wsL_law0_r1 : List Cond := [Cond.classLink RL 8 RX6, Cond.instantiable RX6 7, Cond.initialized RX6, Cond.classLink RL 89 RX7, Cond.instantiable RX7 20, Cond.initialized RX7, Cond.arrayClass .long, Cond.arrayClass .double, Cond.methodLink RL 88 yX6_init, Cond.instanceMethod yX6_init, Cond.code yX6_init cX6_init 1 none, Cond.methodLink RX6 3 objectInit, Cond.instanceMethod objectInit, Cond.code objectInit ⟨#[0xb1]⟩ 1 none, Cond.classLink RX6 9 RX2, Cond.fieldLink RX6 11 "ArcLight" "all" "[LArcLight$Sentence;", Cond.fieldLink RX6 15 "ArcLight" "count" "I", Cond.classLink RX6 19 RX5, Cond.instantiable RX5 8, Cond.initialized RX5, Cond.fieldLink RX6 22 "ArcLight" "weights" "LArcLight$Weights;", Cond.classLink RX6 26 RX0, Cond.instantiable RX0 2, Cond.initialized RX0]
def wsL_law0_r2 : List Cond := [Cond.fieldLink RX6 29 "ArcLight" "arcs" "LArcLight$ArcKeys;", Cond.classLink RX6 33 RX3, Cond.instantiable RX3 4, Cond.initialized RX3, Cond.fieldLink RX6 36 "ArcLight" "spans" "LArcLight$Spans;", Cond.classLink RX6 40 RX1, Cond.instantiable RX1 5, Cond.initialized RX1, Cond.fieldLink RX6 43 "ArcLight" "circles" "LArcLight$Circles;", Cond.classLink RX6 47 RX4, Cond.instantiable RX4 3, Cond.initialized RX4, Cond.fieldLink RX6 50 "ArcLight" "trial" "LArcLight$Trial;", Cond.instanceMethod yX5_init, Cond.code yX5_init cX5_init 1 none, Cond.methodLink RX5 3 objectInit, Cond.arrayClass .int, Cond.fieldLink RX5 9 "ArcLight$Weights" "now" "[I", Cond.fieldLink RX5 15 "ArcLight$Weights" "sums" "[J", Cond.fieldLink RX5 19 "ArcLight$Weights" "steps" "I", Cond.classLink RX5 23 "[[I", Cond.fieldLink RX5 25 "ArcLight$Weights" "oldWeights" "[[I", Cond.classLink RX5 28 "[[J", Cond.fieldLink RX5 30 "ArcLight$Weights" "oldSums" "[[J"]
def wsL_law0_r3 : List Cond := [Cond.fieldLink RX5 33 "ArcLight$Weights" "oldSteps" "[I", Cond.fieldLink RX5 36 "ArcLight$Weights" "kept" "I", Cond.fieldLink RX5 39 "ArcLight$Weights" "next" "I", Cond.instanceMethod yX0_init, Cond.code yX0_init cX0_init 1 none, Cond.methodLink RX0 3 objectInit, Cond.classLink RX0 9 "[[J", Cond.fieldLink RX0 11 "ArcLight$ArcKeys" "keys" "[[J", Cond.fieldLink RX0 16 "ArcLight$ArcKeys" "last" "I", Cond.instanceMethod yX3_init, Cond.code yX3_init cX3_init 1 none, Cond.methodLink RX3 3 objectInit, Cond.classLink RX3 9 "[[J", Cond.fieldLink RX3 11 "ArcLight$Spans" "wholeFromLeft" "[[J", Cond.fieldLink RX3 16 "ArcLight$Spans" "wholeFromRight" "[[J", Cond.fieldLink RX3 19 "ArcLight$Spans" "openFromLeft" "[[J", Cond.fieldLink RX3 22 "ArcLight$Spans" "openFromRight" "[[J", Cond.instanceMethod yX1_init, Cond.code yX1_init cX1_init 1 none, Cond.methodLink RX1 3 objectInit, Cond.classLink RX1 9 "[[J", Cond.fieldLink RX1 11 "ArcLight$Circles" "keys" "[[J", Cond.fieldLink RX1 16 "ArcLight$Circles" "contracted" "[[J", Cond.fieldLink RX1 19 "ArcLight$Circles" "taken" "[I"]
def wsL_law0_r4 : List Cond := [Cond.fieldLink RX1 23 "ArcLight$Circles" "groups" "[I", Cond.fieldLink RX1 26 "ArcLight$Circles" "nodes" "I", Cond.instanceMethod yX4_init, Cond.code yX4_init cX4_init 1 none, Cond.methodLink RX4 3 objectInit, Cond.fieldLink RX4 9 "ArcLight$Trial" "keys" "[J", Cond.fieldLink RX4 15 "ArcLight$Trial" "heads" "[I", Cond.fieldLink RX4 19 "ArcLight$Trial" "found" "I", Cond.methodLink RL 91 yX7_init, Cond.instanceMethod yX7_init, Cond.code yX7_init cX7_init 1 none, Cond.methodLink RX7 1 objectInit, Cond.fieldLink RX7 7 "ArcLightModel" "words" "[I", Cond.fieldLink RX7 13 "ArcLightModel" "kind" "[I", Cond.fieldLink RX7 16 "ArcLightModel" "mark" "[I", Cond.fieldLink RX7 19 "ArcLightModel" "right" "[I", Cond.fieldLink RX7 22 "ArcLightModel" "weight" "[I", Cond.fieldLink RX7 25 "ArcLightModel" "sum" "[J", Cond.fieldLink RX7 29 "ArcLightModel" "was" "[I", Cond.fieldLink RX7 32 "ArcLightModel" "weights" "[I", Cond.fieldLink RX7 35 "ArcLightModel" "tree" "[J", Cond.fieldLink RX7 38 "ArcLightModel" "listed" "I", Cond.fieldLink RX7 42 "ArcLightModel" "bestKey" "[J", Cond.fieldLink RX7 45 "ArcLightModel" "count" "[I"]
def wsL_law0_r5 : List Cond := [Cond.arrayClass .boolean, Cond.fieldLink RX7 48 "ArcLightModel" "isFound" "[Z", Cond.fieldLink RX7 52 "ArcLightModel" "head" "[I", Cond.methodLink RL 92 yL_addSentence, Cond.static yL_addSentence, Cond.initialized RL, Cond.codeWith yL_addSentence cL_addSentence 3 (some .int) [(0, 8, 11, 13)], Cond.classLink RL 13 "java/lang/IllegalStateException", Cond.methodLink RL 7 yX6_addSentence, Cond.instanceMethod yX6_addSentence, Cond.selects RX6 yX6_addSentence yX6_addSentence, Cond.code yX6_addSentence cX6_addSentence 1 (some .int), Cond.classLink RX6 54 "java/lang/IllegalStateException", Cond.initialized "java/lang/IllegalStateException", Cond.instantiable RX2 4, Cond.initialized RX2, Cond.methodLink RX6 61 yX2_init, Cond.instanceMethod yX2_init, Cond.code yX2_init cX2_init 1 none, Cond.methodLink RX2 3 objectInit, Cond.fieldLink RX2 9 "ArcLight$Sentence" "kinds" "[I", Cond.fieldLink RX2 15 "ArcLight$Sentence" "rightHeads" "[I", Cond.classLink RX2 18 "[[I", Cond.fieldLink RX2 20 "ArcLight$Sentence" "marks" "[[I"]
def wsL_law0_r6 : List Cond := [Cond.fieldLink RX2 23 "ArcLight$Sentence" "last" "I", Cond.methodLink RX2 27 yJ7_fill_53178, Cond.static yJ7_fill_53178, Cond.initialized RJ7, Cond.code yJ7_fill_53178 cJ7_fill_53178 4 none, Cond.methodLink RL 97 yX7_addSentence, Cond.instanceMethod yX7_addSentence, Cond.selects RX7 yX7_addSentence yX7_addSentence, Cond.code yX7_addSentence cX7_addSentence 1 (some .int), Cond.fieldLink RX7 58 "ArcLightModel" "sentences" "I", Cond.methodLink RX7 65 yX7_asks, Cond.instanceMethod yX7_asks, Cond.selects RX7 yX7_asks yX7_asks, Cond.code yX7_asks cX7_asks 2 (some .boolean), Cond.fieldLink RX7 55 "ArcLightModel" "thrown" "I", Cond.methodLink RL 98 yX7_thrown, Cond.instanceMethod yX7_thrown, Cond.selects RX7 yX7_thrown yX7_thrown, Cond.code yX7_thrown cX7_thrown 1 (some .int), Cond.methodLink RL 101 yL_addWord, Cond.static yL_addWord, Cond.codeWith yL_addWord cL_addWord 5 (some .int) [(0, 10, 13, 19), (0, 10, 17, 21), (0, 10, 21, 13)], Cond.classLink RL 19 "java/lang/IndexOutOfBoundsException", Cond.classLink RL 21 "java/lang/IllegalArgumentException"]
def wsL_law0_r7 : List Cond := [Cond.methodLink RL 15 yX6_addWord, Cond.instanceMethod yX6_addWord, Cond.selects RX6 yX6_addWord yX6_addWord, Cond.code yX6_addWord cX6_addWord 4 (some .int), Cond.classLink RX6 66 "java/lang/IllegalArgumentException", Cond.initialized "java/lang/IllegalArgumentException", Cond.methodLink RX6 62 yX6_find, Cond.instanceMethod yX6_find, Cond.selects RX6 yX6_find yX6_find, Cond.code yX6_find cX6_find 3 (some (.object "ArcLight$Sentence")), Cond.classLink RX6 197 "java/lang/IndexOutOfBoundsException", Cond.initialized "java/lang/IndexOutOfBoundsException", Cond.methodLink RX6 71 yX2_size, Cond.instanceMethod yX2_size, Cond.selects RX2 yX2_size yX2_size, Cond.code yX2_size cX2_size 1 (some .int), Cond.methodLink RX6 77 yX2_append, Cond.instanceMethod yX2_append, Cond.selects RX2 yX2_append yX2_append, Cond.code yX2_append cX2_append 2 none, Cond.methodLink RL 104 yX7_addWord, Cond.instanceMethod yX7_addWord, Cond.selects RX7 yX7_addWord yX7_addWord, Cond.code yX7_addWord cX7_addWord 3 (some .int)]
def wsL_law0_r8 : List Cond := [Cond.methodLink RX7 61 yX7_isSentence, Cond.instanceMethod yX7_isSentence, Cond.selects RX7 yX7_isSentence yX7_isSentence, Cond.code yX7_isSentence cX7_isSentence 2 (some .boolean), Cond.methodLink RX7 69 yX7_fails, Cond.instanceMethod yX7_fails, Cond.selects RX7 yX7_fails yX7_fails, Cond.code yX7_fails cX7_fails 2 (some .int), Cond.methodLink RX7 73 yX7_changed, Cond.instanceMethod yX7_changed, Cond.selects RX7 yX7_changed yX7_changed, Cond.code yX7_changed cX7_changed 2 none, Cond.methodLink RL 105 yX6_sentences, Cond.instanceMethod yX6_sentences, Cond.selects RX6 yX6_sentences yX6_sentences, Cond.code yX6_sentences cX6_sentences 1 (some .int), Cond.methodLink RL 108 yX7_sentences, Cond.instanceMethod yX7_sentences, Cond.selects RX7 yX7_sentences yX7_sentences, Cond.code yX7_sentences cX7_sentences 1 (some .int), Cond.methodLink RL 109 yL_words, Cond.static yL_words, Cond.codeWith yL_words cL_words 4 (some .int) [(0, 9, 12, 19)], Cond.methodLink RL 23 yX6_words]
def wsL_law0_r9 : List Cond := [Cond.instanceMethod yX6_words, Cond.selects RX6 yX6_words yX6_words, Cond.code yX6_words cX6_words 2 (some .int), Cond.methodLink RL 112 yX7_words, Cond.instanceMethod yX7_words, Cond.selects RX7 yX7_words yX7_words, Cond.code yX7_words cX7_words 2 (some .int), Cond.methodLink RL 113 yL_kind, Cond.static yL_kind, Cond.codeWith yL_kind cL_kind 5 (some .int) [(0, 10, 13, 19)], Cond.methodLink RL 27 yX6_kind, Cond.instanceMethod yX6_kind, Cond.selects RX6 yX6_kind yX6_kind, Cond.code yX6_kind cX6_kind 4 (some .int), Cond.methodLink RX6 81 yX6_checkWord, Cond.static yX6_checkWord, Cond.code yX6_checkWord cX6_checkWord 2 none, Cond.methodLink RX6 85 yX2_kindAt, Cond.instanceMethod yX2_kindAt, Cond.selects RX2 yX2_kindAt yX2_kindAt, Cond.code yX2_kindAt cX2_kindAt 2 (some .int), Cond.static yX6_isPlace, Cond.code yX6_isPlace cX6_isPlace 1 (some .boolean), Cond.methodLink RL 115 yX7_kind]
def wsL_law0_r10 : List Cond := [Cond.instanceMethod yX7_kind, Cond.selects RX7 yX7_kind yX7_kind, Cond.code yX7_kind cX7_kind 3 (some .int), Cond.methodLink RX7 76 yX7_isWord, Cond.instanceMethod yX7_isWord, Cond.selects RX7 yX7_isWord yX7_isWord, Cond.code yX7_isWord cX7_isWord 3 (some .boolean), Cond.methodLink RL 116 yL_setWeight, Cond.static yL_setWeight, Cond.codeWith yL_setWeight cL_setWeight 5 (some .int) [(0, 10, 13, 19), (0, 10, 17, 21)], Cond.methodLink RL 30 yX6_setWeight, Cond.instanceMethod yX6_setWeight, Cond.selects RX6 yX6_setWeight yX6_setWeight, Cond.code yX6_setWeight cX6_setWeight 4 (some .int), Cond.methodLink RX6 89 yX6_checkFeature, Cond.static yX6_checkFeature, Cond.code yX6_checkFeature cX6_checkFeature 1 none, Cond.methodLink RX6 94 yX5_get, Cond.instanceMethod yX5_get, Cond.selects RX5 yX5_get yX5_get, Cond.code yX5_get cX5_get 2 (some .int), Cond.methodLink RX5 42 yX5_isFeature, Cond.static yX5_isFeature, Cond.code yX5_isFeature cX5_isFeature 1 (some .boolean)]
def wsL_law0_r11 : List Cond := [Cond.methodLink RX6 97 yX5_keep, Cond.instanceMethod yX5_keep, Cond.selects RX5 yX5_keep yX5_keep, Cond.code yX5_keep cX5_keep 1 none, Cond.methodLink RX5 66 arraycopyName, Cond.native arraycopyName, Cond.static arraycopyName, Cond.initialized "java/lang/System", Cond.methodLink RX5 72 Lib.Math.min.name, Cond.static Lib.Math.min.name, Cond.initialized "java/lang/Math", Cond.code Lib.Math.min.name Lib.Math.min.code 2 (some .int), Cond.methodLink RX5 63 yX5_isRow, Cond.static yX5_isRow, Cond.code yX5_isRow cX5_isRow 1 (some .boolean), Cond.methodLink RX6 100 yX5_put, Cond.instanceMethod yX5_put, Cond.selects RX5 yX5_put yX5_put, Cond.code yX5_put cX5_put 3 none, Cond.methodLink RL 118 yX7_setWeight, Cond.instanceMethod yX7_setWeight, Cond.selects RX7 yX7_setWeight yX7_setWeight, Cond.code yX7_setWeight cX7_setWeight 4 (some .int), Cond.methodLink RX7 86 yX7_remembers]
def wsL_law0_r12 : List Cond := [Cond.instanceMethod yX7_remembers, Cond.selects RX7 yX7_remembers yX7_remembers, Cond.code yX7_remembers cX7_remembers 4 none, Cond.fieldLink RX7 80 "ArcLightModel" "first" "I", Cond.fieldLink RX7 83 "ArcLightModel" "back" "I", Cond.methodLink RL 119 yL_weight, Cond.static yL_weight, Cond.codeWith yL_weight cL_weight 4 (some .int) [(0, 9, 12, 19)], Cond.methodLink RL 33 yX6_weight, Cond.instanceMethod yX6_weight, Cond.selects RX6 yX6_weight yX6_weight, Cond.code yX6_weight cX6_weight 2 (some .int), Cond.methodLink RL 121 yX7_weight, Cond.instanceMethod yX7_weight, Cond.selects RX7 yX7_weight yX7_weight, Cond.code yX7_weight cX7_weight 2 (some .int), Cond.methodLink RL 122 yL_feature, Cond.static yL_feature, Cond.codeWith yL_feature cL_feature 7 (some .int) [(0, 14, 17, 19), (0, 14, 21, 21)], Cond.methodLink RL 36 yX6_feature, Cond.instanceMethod yX6_feature, Cond.selects RX6 yX6_feature yX6_feature, Cond.code yX6_feature cX6_feature 6 (some .int), Cond.methodLink RX6 104 yX6_checkArc]
def wsL_law0_r13 : List Cond := [Cond.static yX6_checkArc, Cond.code yX6_checkArc cX6_checkArc 3 none, Cond.methodLink RX6 108 yX6_byDistance, Cond.static yX6_byDistance, Cond.code yX6_byDistance cX6_byDistance 3 (some .int), Cond.methodLink RX6 246 Lib.Math.abs.name, Cond.static Lib.Math.abs.name, Cond.code Lib.Math.abs.name Lib.Math.abs.code 1 (some .int), Cond.methodLink RX6 249 Lib.Math.min.name, Cond.methodLink RX6 112 yX2_byKinds, Cond.instanceMethod yX2_byKinds, Cond.selects RX2 yX2_byKinds yX2_byKinds, Cond.code yX2_byKinds cX2_byKinds 3 (some .int), Cond.methodLink RX2 37 yX2_kindAt, Cond.methodLink RL 125 yX7_feature, Cond.instanceMethod yX7_feature, Cond.selects RX7 yX7_feature yX7_feature, Cond.code yX7_feature cX7_feature 5 (some .int), Cond.methodLink RX7 101 yX7_asksArc, Cond.instanceMethod yX7_asksArc, Cond.selects RX7 yX7_asksArc yX7_asksArc, Cond.code yX7_asksArc cX7_asksArc 4 (some .boolean), Cond.methodLink RX7 98 yX7_isPlace, Cond.instanceMethod yX7_isPlace]
def wsL_law0_r14 : List Cond := [Cond.selects RX7 yX7_isPlace yX7_isPlace, Cond.code yX7_isPlace cX7_isPlace 3 (some .boolean), Cond.methodLink RX7 94 yX7_byDistance, Cond.static yX7_byDistance, Cond.code yX7_byDistance cX7_byDistance 3 (some .int), Cond.methodLink RX7 90 yX7_byKind, Cond.instanceMethod yX7_byKind, Cond.selects RX7 yX7_byKind yX7_byKind, Cond.code yX7_byKind cX7_byKind 4 (some .int), Cond.methodLink RL 126 yL_score, Cond.static yL_score, Cond.codeWith yL_score cL_score 6 (some .int) [(0, 12, 15, 19), (0, 12, 19, 21)], Cond.methodLink RL 40 yX6_score, Cond.instanceMethod yX6_score, Cond.selects RX6 yX6_score yX6_score, Cond.code yX6_score cX6_score 5 (some .int), Cond.methodLink RX6 115 yX5_ofArc, Cond.instanceMethod yX5_ofArc, Cond.selects RX5 yX5_ofArc yX5_ofArc, Cond.code yX5_ofArc cX5_ofArc 4 (some .int), Cond.methodLink RX5 46 yX2_byKinds, Cond.methodLink RX5 52 yX5_get, Cond.methodLink RL 129 yX7_score, Cond.instanceMethod yX7_score]
def wsL_law0_r15 : List Cond := [Cond.selects RX7 yX7_score yX7_score, Cond.code yX7_score cX7_score 4 (some .int), Cond.methodLink RX7 105 yX7_scoreOf, Cond.instanceMethod yX7_scoreOf, Cond.selects RX7 yX7_scoreOf yX7_scoreOf, Cond.code yX7_scoreOf cX7_scoreOf 4 (some .int), Cond.methodLink RL 130 yL_mark, Cond.static yL_mark, Cond.codeWith yL_mark cL_mark 7 (some .int) [(0, 14, 17, 19), (0, 14, 21, 21), (0, 14, 25, 13)], Cond.methodLink RL 44 yX6_mark, Cond.instanceMethod yX6_mark, Cond.selects RX6 yX6_mark yX6_mark, Cond.code yX6_mark cX6_mark 7 (some .int), Cond.methodLink RX6 121 yX2_forcedHead, Cond.instanceMethod yX2_forcedHead, Cond.selects RX2 yX2_forcedHead yX2_forcedHead, Cond.code yX2_forcedHead cX2_forcedHead 3 (some .int), Cond.methodLink RX2 41 yX2_markOf, Cond.instanceMethod yX2_markOf, Cond.selects RX2 yX2_markOf yX2_markOf, Cond.code yX2_markOf cX2_markOf 3 (some .int), Cond.methodLink RX6 126 yX2_changeMark, Cond.instanceMethod yX2_changeMark, Cond.selects RX2 yX2_changeMark yX2_changeMark]
def wsL_law0_r16 : List Cond := [Cond.code yX2_changeMark cX2_changeMark 5 (some .int), Cond.methodLink RL 133 yX7_mark, Cond.instanceMethod yX7_mark, Cond.selects RX7 yX7_mark yX7_mark, Cond.code yX7_mark cX7_mark 7 (some .int), Cond.methodLink RX7 108 yX7_arc, Cond.instanceMethod yX7_arc, Cond.selects RX7 yX7_arc yX7_arc, Cond.code yX7_arc cX7_arc 4 (some .int), Cond.methodLink RL 134 yL_trees, Cond.static yL_trees, Cond.codeWith yL_trees cL_trees 5 (some .int) [(0, 10, 13, 19)], Cond.methodLink RL 48 yX6_trees, Cond.instanceMethod yX6_trees, Cond.selects RX6 yX6_trees yX6_trees, Cond.code yX6_trees cX6_trees 3 (some .int), Cond.methodLink RX6 130 yX6_tryAll, Cond.instanceMethod yX6_tryAll, Cond.selects RX6 yX6_tryAll yX6_tryAll, Cond.code yX6_tryAll cX6_tryAll 3 (some (.object "ArcLight$Trial")), Cond.methodLink RX6 214 yX0_fill, Cond.instanceMethod yX0_fill, Cond.selects RX0 yX0_fill yX0_fill, Cond.code yX0_fill cX0_fill 5 none]
def wsL_law0_r17 : List Cond := [Cond.methodLink RX0 26 Lib.Math.min.name, Cond.constantLong RX0 32 (-9223372036854775808), Cond.constantLong RX0 44 (117649), Cond.methodLink RX0 20 yX2_size, Cond.methodLink RX0 34 yX2_allows, Cond.instanceMethod yX2_allows, Cond.selects RX2 yX2_allows yX2_allows, Cond.code yX2_allows cX2_allows 4 (some .boolean), Cond.methodLink RX2 45 yX2_forcedHead, Cond.methodLink RX0 38 yX5_ofArc, Cond.methodLink RX6 218 yX4_run, Cond.instanceMethod yX4_run, Cond.selects RX4 yX4_run yX4_run, Cond.code yX4_run cX4_run 3 none, Cond.methodLink RX4 23 yX4_giveHeads, Cond.static yX4_giveHeads, Cond.code yX4_giveHeads cX4_giveHeads 9 none, Cond.constantLong RX4 27 (-9223372036854775808), Cond.methodLink RX4 52 yX0_size, Cond.instanceMethod yX0_size, Cond.selects RX0 yX0_size yX0_size, Cond.code yX0_size cX0_size 1 (some .int), Cond.methodLink RX4 58 yX4_note, Cond.instanceMethod yX4_note]
def wsL_law0_r18 : List Cond := [Cond.selects RX4 yX4_note yX4_note, Cond.code yX4_note cX4_note 3 none, Cond.methodLink RX4 62 yX0_get, Cond.instanceMethod yX0_get, Cond.selects RX0 yX0_get yX0_get, Cond.code yX0_get cX0_get 3 (some .long), Cond.methodLink RX4 66 yX4_closesCircle, Cond.instanceMethod yX4_closesCircle, Cond.selects RX4 yX4_closesCircle yX4_closesCircle, Cond.code yX4_closesCircle cX4_closesCircle 5 (some .boolean), Cond.methodLink RX4 70 yX4_crossesEarlier, Cond.instanceMethod yX4_crossesEarlier, Cond.selects RX4 yX4_crossesEarlier yX4_crossesEarlier, Cond.code yX4_crossesEarlier cX4_crossesEarlier 4 (some .boolean), Cond.static yX6_doCross, Cond.code yX6_doCross cX6_doCross 8 (some .boolean), Cond.methodLink RX6 252 Lib.Math.max.name, Cond.static Lib.Math.max.name, Cond.code Lib.Math.max.name Lib.Math.max.code 2 (some .int), Cond.methodLink RX6 134 yX4_size, Cond.instanceMethod yX4_size, Cond.selects RX4 yX4_size yX4_size, Cond.code yX4_size cX4_size 1 (some .int), Cond.methodLink RL 137 yX7_trees]
def wsL_law0_r19 : List Cond := [Cond.instanceMethod yX7_trees, Cond.selects RX7 yX7_trees yX7_trees, Cond.code yX7_trees cX7_trees 3 (some .int), Cond.methodLink RX7 144 yX7_finds, Cond.instanceMethod yX7_finds, Cond.selects RX7 yX7_finds yX7_finds, Cond.code yX7_finds cX7_finds 4 (some .int), Cond.methodLink RX7 134 yX7_walks, Cond.instanceMethod yX7_walks, Cond.selects RX7 yX7_walks yX7_walks, Cond.code yX7_walks cX7_walks 11 none, Cond.constantLong RX7 121 (4611686018427387904), Cond.fieldLink RX7 123 "ArcLightModel" "many" "I", Cond.methodLink RX7 126 yX7_keyOf, Cond.instanceMethod yX7_keyOf, Cond.selects RX7 yX7_keyOf yX7_keyOf, Cond.code yX7_keyOf cX7_keyOf 5 (some .long), Cond.constant RX7 120 (100000), Cond.methodLink RX7 130 yX7_may, Cond.instanceMethod yX7_may, Cond.selects RX7 yX7_may yX7_may, Cond.code yX7_may cX7_may 8 (some .boolean), Cond.methodLink RX7 117 yX7_doCross, Cond.instanceMethod yX7_doCross]
def wsL_law0_r20 : List Cond := [Cond.selects RX7 yX7_doCross yX7_doCross, Cond.code yX7_doCross cX7_doCross 4 (some .boolean), Cond.methodLink RX7 111 yX7_isBetween, Cond.static yX7_isBetween, Cond.code yX7_isBetween cX7_isBetween 3 (some .boolean), Cond.methodLink RX7 114 yX7_isBeyond, Cond.static yX7_isBeyond, Cond.code yX7_isBeyond cX7_isBeyond 3 (some .boolean), Cond.methodLink RL 138 yL_best, Cond.static yL_best, Cond.codeWith yL_best cL_best 5 (some .int) [(0, 10, 13, 19), (0, 10, 17, 13)], Cond.methodLink RL 52 yX6_best, Cond.instanceMethod yX6_best, Cond.selects RX6 yX6_best yX6_best, Cond.code yX6_best cX6_best 3 (some .int), Cond.methodLink RX6 135 yX6_bestKey, Cond.instanceMethod yX6_bestKey, Cond.selects RX6 yX6_bestKey yX6_bestKey, Cond.code yX6_bestKey cX6_bestKey 5 (some .long), Cond.methodLink RX6 222 yX1_greatest, Cond.instanceMethod yX1_greatest, Cond.selects RX1 yX1_greatest yX1_greatest, Cond.code yX1_greatest cX1_greatest 8 (some .long), Cond.methodLink RX1 36 Lib.Math.min.name]
def wsL_law0_r21 : List Cond := [Cond.constantLong RX1 50 (-9223372036854775808), Cond.methodLink RX1 30 yX0_size, Cond.methodLink RX1 42 yX0_get, Cond.methodLink RX1 46 yX1_takeGreatest, Cond.instanceMethod yX1_takeGreatest, Cond.selects RX1 yX1_takeGreatest yX1_takeGreatest, Cond.code yX1_takeGreatest cX1_takeGreatest 5 (some .long), Cond.methodLink RX1 59 yX1_takenKey, Cond.instanceMethod yX1_takenKey, Cond.selects RX1 yX1_takenKey yX1_takenKey, Cond.code yX1_takenKey cX1_takenKey 3 (some .long), Cond.methodLink RX1 63 yX1_takenHead, Cond.instanceMethod yX1_takenHead, Cond.selects RX1 yX1_takenHead yX1_takenHead, Cond.code yX1_takenHead cX1_takenHead 2 (some .int), Cond.methodLink RX1 52 yX1_findCircle, Cond.instanceMethod yX1_findCircle, Cond.selects RX1 yX1_findCircle yX1_findCircle, Cond.code yX1_findCircle cX1_findCircle 4 (some .int), Cond.methodLink RX1 55 yX1_contract, Cond.instanceMethod yX1_contract, Cond.selects RX1 yX1_contract yX1_contract, Cond.code yX1_contract cX1_contract 7 none, Cond.methodLink RX1 71 yX1_groupNodes]
def wsL_law0_r22 : List Cond := [Cond.instanceMethod yX1_groupNodes, Cond.selects RX1 yX1_groupNodes yX1_groupNodes, Cond.code yX1_groupNodes cX1_groupNodes 5 (some .int), Cond.methodLink RX1 84 yJ7_fill_53178, Cond.methodLink RX1 74 yJ7_fill_d0a16, Cond.static yJ7_fill_d0a16, Cond.code yJ7_fill_d0a16 cJ7_fill_d0a16 5 none, Cond.methodLink RX1 80 yX1_offer, Cond.instanceMethod yX1_offer, Cond.selects RX1 yX1_offer yX1_offer, Cond.code yX1_offer cX1_offer 5 none, Cond.methodLink RX6 225 yX3_greatest, Cond.instanceMethod yX3_greatest, Cond.selects RX3 yX3_greatest yX3_greatest, Cond.code yX3_greatest cX3_greatest 5 (some .long), Cond.methodLink RX3 31 Lib.Math.min.name, Cond.constantLong RX3 45 (-9223372036854775808), Cond.methodLink RX3 25 yX0_size, Cond.methodLink RX3 37 yX3_fillOpen, Cond.instanceMethod yX3_fillOpen, Cond.selects RX3 yX3_fillOpen yX3_fillOpen, Cond.code yX3_fillOpen cX3_fillOpen 7 none, Cond.methodLink RX3 55 Lib.MathLoose.max_long.x, Cond.static Lib.MathLoose.max_long.x]
def wsL_law0_r23 : List Cond := [Cond.code Lib.MathLoose.max_long.x Lib.MathLoose.max_long.code 4 (some .long), Cond.methodLink RX3 51 yX3_join, Cond.static yX3_join, Cond.code yX3_join cX3_join 4 (some .long), Cond.methodLink RX3 58 yX0_get, Cond.methodLink RX3 41 yX3_fillWhole, Cond.instanceMethod yX3_fillWhole, Cond.selects RX3 yX3_fillWhole yX3_fillWhole, Cond.code yX3_fillWhole cX3_fillWhole 8 none, Cond.methodLink RX6 147 yX6_checkTree, Cond.static yX6_checkTree, Cond.code yX6_checkTree cX6_checkTree 2 none, Cond.constantLong RX6 210 (-9223372036854775808), Cond.methodLink RX6 139 yX6_scoreIn, Cond.static yX6_scoreIn, Cond.code yX6_scoreIn cX6_scoreIn 2 (some .int), Cond.constantLong RX6 232 (117649), Cond.methodLink RX6 240 yX6_rowOfHeads, Cond.static yX6_rowOfHeads, Cond.code yX6_rowOfHeads cX6_rowOfHeads 2 (some .long), Cond.methodLink RX6 234 yJ9_floorMod_f86c9, Cond.static yJ9_floorMod_f86c9, Cond.initialized RJ9, Cond.code yJ9_floorMod_f86c9 cJ9_floorMod_f86c9 6 (some .long)]
def wsL_law0_r24 : List Cond := [Cond.methodLink RL 140 yX7_best, Cond.instanceMethod yX7_best, Cond.selects RX7 yX7_best yX7_best, Cond.code yX7_best cX7_best 3 (some .int), Cond.methodLink RX7 148 yX7_asksTree, Cond.instanceMethod yX7_asksTree, Cond.selects RX7 yX7_asksTree yX7_asksTree, Cond.code yX7_asksTree cX7_asksTree 3 (some .boolean), Cond.methodLink RX7 152 yX7_scoreIn, Cond.instanceMethod yX7_scoreIn, Cond.selects RX7 yX7_scoreIn yX7_scoreIn, Cond.code yX7_scoreIn cX7_scoreIn 3 (some .int), Cond.methodLink RL 141 yL_bestByTrying, Cond.static yL_bestByTrying, Cond.codeWith yL_bestByTrying cL_bestByTrying 5 (some .int) [(0, 10, 13, 19), (0, 10, 17, 13)], Cond.methodLink RL 55 yX6_bestByTrying, Cond.instanceMethod yX6_bestByTrying, Cond.selects RX6 yX6_bestByTrying yX6_bestByTrying, Cond.code yX6_bestByTrying cX6_bestByTrying 5 (some .int), Cond.methodLink RX6 143 yX4_greatest, Cond.instanceMethod yX4_greatest, Cond.selects RX4 yX4_greatest yX4_greatest, Cond.code yX4_greatest cX4_greatest 4 (some .long), Cond.methodLink RX4 29 Lib.MathLoose.max_long.x]
def wsL_law0_r25 : List Cond := [Cond.methodLink RL 143 yX7_bestByTrying, Cond.instanceMethod yX7_bestByTrying, Cond.selects RX7 yX7_bestByTrying yX7_bestByTrying, Cond.code yX7_bestByTrying cX7_bestByTrying 3 (some .int), Cond.methodLink RL 144 yL_head, Cond.static yL_head, Cond.codeWith yL_head cL_head 6 (some .int) [(0, 12, 15, 19), (0, 12, 19, 13)], Cond.methodLink RL 58 yX6_head, Cond.instanceMethod yX6_head, Cond.selects RX6 yX6_head yX6_head, Cond.code yX6_head cX6_head 5 (some .int), Cond.methodLink RX6 151 yX6_headIn, Cond.static yX6_headIn, Cond.code yX6_headIn cX6_headIn 6 (some .int), Cond.constantLong RX6 244 (7), Cond.methodLink RL 147 yX7_head, Cond.instanceMethod yX7_head, Cond.selects RX7 yX7_head yX7_head, Cond.code yX7_head cX7_head 4 (some .int), Cond.methodLink RX7 156 yX7_headIn, Cond.instanceMethod yX7_headIn, Cond.selects RX7 yX7_headIn yX7_headIn, Cond.code yX7_headIn cX7_headIn 5 (some .int), Cond.constantLong RX7 142 (7)]
def wsL_law0_r26 : List Cond := [Cond.methodLink RL 148 yL_crossings, Cond.static yL_crossings, Cond.codeWith yL_crossings cL_crossings 4 (some .int) [(0, 9, 12, 19), (0, 9, 15, 13)], Cond.methodLink RL 62 yX6_crossings, Cond.instanceMethod yX6_crossings, Cond.selects RX6 yX6_crossings yX6_crossings, Cond.code yX6_crossings cX6_crossings 8 (some .int), Cond.methodLink RX6 155 yX6_doCross, Cond.methodLink RL 150 yX7_crossings, Cond.instanceMethod yX7_crossings, Cond.selects RX7 yX7_crossings yX7_crossings, Cond.code yX7_crossings cX7_crossings 7 (some .int), Cond.methodLink RL 151 yL_ranked, Cond.static yL_ranked, Cond.codeWith yL_ranked cL_ranked 6 (some .int) [(0, 12, 15, 19)], Cond.methodLink RL 65 yX6_ranked, Cond.instanceMethod yX6_ranked, Cond.selects RX6 yX6_ranked yX6_ranked, Cond.code yX6_ranked cX6_ranked 4 (some .int), Cond.methodLink RX6 159 yX6_rankedKey, Cond.instanceMethod yX6_rankedKey, Cond.selects RX6 yX6_rankedKey yX6_rankedKey, Cond.code yX6_rankedKey cX6_rankedKey 5 (some .long), Cond.methodLink RX6 228 yX4_ofRank]
def wsL_law0_r27 : List Cond := [Cond.instanceMethod yX4_ofRank, Cond.selects RX4 yX4_ofRank yX4_ofRank, Cond.code yX4_ofRank cX4_ofRank 9 (some .long), Cond.constantLong RX4 43 (2), Cond.methodLink RX4 35 yX4_greatest, Cond.methodLink RX4 39 yX4_least, Cond.instanceMethod yX4_least, Cond.selects RX4 yX4_least yX4_least, Cond.code yX4_least cX4_least 6 (some .long), Cond.methodLink RX4 49 Lib.MathLoose.min_long.x, Cond.static Lib.MathLoose.min_long.x, Cond.code Lib.MathLoose.min_long.x Lib.MathLoose.min_long.code 4 (some .long), Cond.methodLink RX4 45 yX4_countAbove, Cond.instanceMethod yX4_countAbove, Cond.selects RX4 yX4_countAbove yX4_countAbove, Cond.code yX4_countAbove cX4_countAbove 5 (some .int), Cond.methodLink RL 153 yX7_ranked, Cond.instanceMethod yX7_ranked, Cond.selects RX7 yX7_ranked yX7_ranked, Cond.code yX7_ranked cX7_ranked 4 (some .int), Cond.methodLink RX7 164 yX7_asksRank, Cond.instanceMethod yX7_asksRank, Cond.selects RX7 yX7_asksRank yX7_asksRank, Cond.code yX7_asksRank cX7_asksRank 6 (some .boolean)]
def wsL_law0_r28 : List Cond := [Cond.methodLink RX7 160 yX7_lists, Cond.instanceMethod yX7_lists, Cond.selects RX7 yX7_lists yX7_lists, Cond.code yX7_lists cX7_lists 7 none, Cond.methodLink RX7 138 yX7_sinks, Cond.instanceMethod yX7_sinks, Cond.selects RX7 yX7_sinks yX7_sinks, Cond.code yX7_sinks cX7_sinks 8 none, Cond.methodLink RL 154 yL_rankedHead, Cond.static yL_rankedHead, Cond.codeWith yL_rankedHead cL_rankedHead 7 (some .int) [(0, 14, 17, 19)], Cond.methodLink RL 68 yX6_rankedHead, Cond.instanceMethod yX6_rankedHead, Cond.selects RX6 yX6_rankedHead yX6_rankedHead, Cond.code yX6_rankedHead cX6_rankedHead 6 (some .int), Cond.methodLink RL 157 yX7_rankedHead, Cond.instanceMethod yX7_rankedHead, Cond.selects RX7 yX7_rankedHead yX7_rankedHead, Cond.code yX7_rankedHead cX7_rankedHead 5 (some .int), Cond.methodLink RL 158 yL_correct, Cond.static yL_correct, Cond.codeWith yL_correct cL_correct 6 (some .int) [(0, 12, 15, 19), (0, 12, 19, 21)], Cond.methodLink RL 72 yX6_correct, Cond.instanceMethod yX6_correct]
def wsL_law0_r29 : List Cond := [Cond.selects RX6 yX6_correct yX6_correct, Cond.code yX6_correct cX6_correct 5 (some .int), Cond.methodLink RX6 163 yX2_changeRightHead, Cond.instanceMethod yX2_changeRightHead, Cond.selects RX2 yX2_changeRightHead yX2_changeRightHead, Cond.code yX2_changeRightHead cX2_changeRightHead 4 (some .int), Cond.methodLink RX2 48 yX2_rightHead, Cond.instanceMethod yX2_rightHead, Cond.selects RX2 yX2_rightHead yX2_rightHead, Cond.code yX2_rightHead cX2_rightHead 2 (some .int), Cond.methodLink RL 160 yX7_correct, Cond.instanceMethod yX7_correct, Cond.selects RX7 yX7_correct yX7_correct, Cond.code yX7_correct cX7_correct 5 (some .int), Cond.methodLink RL 161 yL_matched, Cond.static yL_matched, Cond.codeWith yL_matched cL_matched 4 (some .int) [(0, 9, 12, 19), (0, 9, 15, 13)], Cond.methodLink RL 75 yX6_matched, Cond.instanceMethod yX6_matched, Cond.selects RX6 yX6_matched yX6_matched, Cond.code yX6_matched cX6_matched 7 (some .int), Cond.methodLink RX6 166 yX2_rightHead, Cond.methodLink RL 163 yX7_matched, Cond.instanceMethod yX7_matched]
def wsL_law0_r30 : List Cond := [Cond.selects RX7 yX7_matched yX7_matched, Cond.code yX7_matched cX7_matched 6 (some .int), Cond.methodLink RL 164 yL_mend, Cond.static yL_mend, Cond.codeWith yL_mend cL_mend 4 (some .int) [(0, 9, 12, 19), (0, 9, 15, 13)], Cond.methodLink RL 78 yX6_mend, Cond.instanceMethod yX6_mend, Cond.selects RX6 yX6_mend yX6_mend, Cond.code yX6_mend cX6_mend 9 (some .int), Cond.methodLink RX6 169 yX2_hasRightTree, Cond.instanceMethod yX2_hasRightTree, Cond.selects RX2 yX2_hasRightTree yX2_hasRightTree, Cond.code yX2_hasRightTree cX2_hasRightTree 4 (some .boolean), Cond.methodLink RX6 175 yX5_addToArc, Cond.instanceMethod yX5_addToArc, Cond.selects RX5 yX5_addToArc yX5_addToArc, Cond.code yX5_addToArc cX5_addToArc 7 none, Cond.methodLink RX5 59 yX5_put, Cond.methodLink RX6 179 yX5_endStep, Cond.instanceMethod yX5_endStep, Cond.selects RX5 yX5_endStep yX5_endStep, Cond.code yX5_endStep cX5_endStep 2 none, Cond.methodLink RL 166 yX7_mend, Cond.instanceMethod yX7_mend]
def wsL_law0_r31 : List Cond := [Cond.selects RX7 yX7_mend yX7_mend, Cond.code yX7_mend cX7_mend 8 (some .int), Cond.fieldLink RX7 175 "ArcLightModel" "steps" "I", Cond.methodLink RX7 168 yX7_isRight, Cond.instanceMethod yX7_isRight, Cond.selects RX7 yX7_isRight yX7_isRight, Cond.code yX7_isRight cX7_isRight 6 (some .boolean), Cond.methodLink RX7 171 yX7_adds, Cond.instanceMethod yX7_adds, Cond.selects RX7 yX7_adds yX7_adds, Cond.code yX7_adds cX7_adds 5 none, Cond.methodLink RL 167 yX6_steps, Cond.instanceMethod yX6_steps, Cond.selects RX6 yX6_steps yX6_steps, Cond.code yX6_steps cX6_steps 1 (some .int), Cond.methodLink RX6 182 yX5_stepCount, Cond.instanceMethod yX5_stepCount, Cond.selects RX5 yX5_stepCount yX5_stepCount, Cond.code yX5_stepCount cX5_stepCount 1 (some .int), Cond.methodLink RL 170 yX7_steps, Cond.instanceMethod yX7_steps, Cond.selects RX7 yX7_steps yX7_steps, Cond.code yX7_steps cX7_steps 1 (some .int), Cond.methodLink RL 171 yL_average]
def wsL_law0_r32 : List Cond := [Cond.static yL_average, Cond.codeWith yL_average cL_average 4 (some .int) [(0, 8, 11, 19)], Cond.methodLink RL 81 yX6_average, Cond.instanceMethod yX6_average, Cond.selects RX6 yX6_average yX6_average, Cond.code yX6_average cX6_average 2 (some .double), Cond.methodLink RX6 185 yX5_averageOf, Cond.instanceMethod yX5_averageOf, Cond.selects RX5 yX5_averageOf yX5_averageOf, Cond.code yX5_averageOf cX5_averageOf 2 (some .double), Cond.methodLink RL 174 yX7_average, Cond.instanceMethod yX7_average, Cond.selects RX7 yX7_average yX7_average, Cond.code yX7_average cX7_average 2 (some .double), Cond.methodLink RL 175 yL_rollBack, Cond.static yL_rollBack, Cond.codeWith yL_rollBack cL_rollBack 3 (some .int) [(0, 8, 11, 13)], Cond.methodLink RL 85 yX6_rollBack, Cond.instanceMethod yX6_rollBack, Cond.selects RX6 yX6_rollBack yX6_rollBack, Cond.code yX6_rollBack cX6_rollBack 1 (some .int), Cond.methodLink RX6 189 yX5_keptCount, Cond.instanceMethod yX5_keptCount, Cond.selects RX5 yX5_keptCount yX5_keptCount]
def wsL_law0_r33 : List Cond := [Cond.code yX5_keptCount cX5_keptCount 1 (some .int), Cond.methodLink RX6 194 yX5_takeBack, Cond.instanceMethod yX5_takeBack, Cond.selects RX5 yX5_takeBack yX5_takeBack, Cond.code yX5_takeBack cX5_takeBack 2 none, Cond.methodLink RL 177 yX7_rollBack, Cond.instanceMethod yX7_rollBack, Cond.selects RX7 yX7_rollBack yX7_rollBack, Cond.code yX7_rollBack cX7_rollBack 4 (some .int)]
def wsL_law0 : List Cond := (wsL_law0_r1 ++ (wsL_law0_r2 ++ (wsL_law0_r3 ++ (wsL_law0_r4 ++ (wsL_law0_r5 ++ (wsL_law0_r6 ++ (wsL_law0_r7 ++ (wsL_law0_r8 ++ (wsL_law0_r9 ++ (wsL_law0_r10 ++ (wsL_law0_r11 ++ (wsL_law0_r12 ++ (wsL_law0_r13 ++ (wsL_law0_r14 ++ (wsL_law0_r15 ++ (wsL_law0_r16 ++ (wsL_law0_r17 ++ (wsL_law0_r18 ++ (wsL_law0_r19 ++ (wsL_law0_r20 ++ (wsL_law0_r21 ++ (wsL_law0_r22 ++ (wsL_law0_r23 ++ (wsL_law0_r24 ++ (wsL_law0_r25 ++ (wsL_law0_r26 ++ (wsL_law0_r27 ++ (wsL_law0_r28 ++ (wsL_law0_r29 ++ (wsL_law0_r30 ++ (wsL_law0_r31 ++ (wsL_law0_r32 ++ wsL_law0_r33)))))))))))))))))))))))))))))))) ++ wsX60 ++ wsX70 ++ wsX50 ++ wsX00 ++ wsX30 ++ wsX10 ++ wsX40 ++ wsX20 ++ ([] : List Cond)
def wsL_law : List Cond := wsL_law0 ++ (vx_atS RX6 58 "java/lang/IllegalStateException" ["java/lang/RuntimeException", "java/lang/Exception"]).filter goodWord ++ (vx_atS RX6 70 "java/lang/IllegalArgumentException" ["java/lang/RuntimeException", "java/lang/Exception"]).filter goodWord ++ (vx_atS RX6 201 "java/lang/IndexOutOfBoundsException" ["java/lang/RuntimeException", "java/lang/Exception"]).filter goodWord
set_option maxRecDepth 20000 in
theorem wsL_law_in0 : ∀ w ∈ wsL_law0, w ∈ lw_tbl := fun w h => (goodIn_p wsL_law0 [65, 68, 75, 112, 126, 146, 169, 792, 222, 294, 299, 863, 867, 859, 321, 325, 361, 366, 871, 875, 879, 883, 206, 887, 373, 891, 380, 383, 388, 391, 895, 899, 398, 401, 407, 410, 414, 423, 417, 427, 903, 907, 434, 911, 441, 444, 449, 452, 457, 915, 919, 923, 926, 930, 465, 469, 934, 938, 479, 484, 488, 493, 942, 946, 500, 504, 508, 515, 524, 527, 531, 535, 539, 545, 549, 552, 555, 559, 950, 954, 958, 963, 968, 972, 975, 978, 566, 570, 574, 581, 585, 589, 595, 599, 603, 607, 611, 615, 621, 629, 626, 634, 637, 642, 645, 649, 982, 986, 990, 656, 660, 994, 668, 671, 998, 1002, 679, 1007, 687, 691, 696, 701, 704, 709, 1011, 1015, 1019, 1023, 716, 1027, 723, 727, 731, 1031, 738, 1035, 746, 750, 755, 760, 1039, 1043, 1047, 210, 214, 1051, 767, 771, 1055, 778, 782, 787, 1059] (by decide +kernel) (by decide +kernel) w h).1
theorem wsL_law_x0 : ∀ w ∈ (vx_atS RX6 58 "java/lang/IllegalStateException" ["java/lang/RuntimeException", "java/lang/Exception"]).filter goodWord, w ∈ lw_tbl := by decide +kernel
theorem wsL_law_x1 : ∀ w ∈ (vx_atS RX6 70 "java/lang/IllegalArgumentException" ["java/lang/RuntimeException", "java/lang/Exception"]).filter goodWord, w ∈ lw_tbl := by decide +kernel
theorem wsL_law_x2 : ∀ w ∈ (vx_atS RX6 201 "java/lang/IndexOutOfBoundsException" ["java/lang/RuntimeException", "java/lang/Exception"]).filter goodWord, w ∈ lw_tbl := by decide +kernel
theorem wsL_law_in : ∀ w ∈ wsL_law, w ∈ lw_tbl := fun w h => (List.mem_append.mp h).elim (fun h => (List.mem_append.mp h).elim (fun h => (List.mem_append.mp h).elim (fun h => wsL_law_in0 w h) (fun h => wsL_law_x0 w h)) (fun h => wsL_law_x1 w h)) (fun h => wsL_law_x2 w h)
theorem inlX0 : ∀ w ∈ wsX00, w ∈ wsL_law := fun _ h => List.mem_append_left _ (List.mem_append_left _ (List.mem_append_left _ (List.mem_append_left _ (List.mem_append_left _ (List.mem_append_left _ (List.mem_append_left _ (List.mem_append_left _ (List.mem_append_right _ h))))))))
theorem inX0 : ∀ w ∈ wsX00, w ∈ lw_tbl := fun w h => wsL_law_in w (inlX0 w h)
theorem inlX1 : ∀ w ∈ wsX10, w ∈ wsL_law := fun _ h => List.mem_append_left _ (List.mem_append_left _ (List.mem_append_left _ (List.mem_append_left _ (List.mem_append_left _ (List.mem_append_left _ (List.mem_append_right _ h))))))
theorem inX1 : ∀ w ∈ wsX10, w ∈ lw_tbl := fun w h => wsL_law_in w (inlX1 w h)
theorem inlX2 : ∀ w ∈ wsX20, w ∈ wsL_law := fun _ h => List.mem_append_left _ (List.mem_append_left _ (List.mem_append_left _ (List.mem_append_left _ (List.mem_append_right _ h))))
theorem inX2 : ∀ w ∈ wsX20, w ∈ lw_tbl := fun w h => wsL_law_in w (inlX2 w h)
theorem inlX3 : ∀ w ∈ wsX30, w ∈ wsL_law := fun _ h => List.mem_append_left _ (List.mem_append_left _ (List.mem_append_left _ (List.mem_append_left _ (List.mem_append_left _ (List.mem_append_left _ (List.mem_append_left _ (List.mem_append_right _ h)))))))
theorem inX3 : ∀ w ∈ wsX30, w ∈ lw_tbl := fun w h => wsL_law_in w (inlX3 w h)
theorem inlX4 : ∀ w ∈ wsX40, w ∈ wsL_law := fun _ h => List.mem_append_left _ (List.mem_append_left _ (List.mem_append_left _ (List.mem_append_left _ (List.mem_append_left _ (List.mem_append_right _ h)))))
theorem inX4 : ∀ w ∈ wsX40, w ∈ lw_tbl := fun w h => wsL_law_in w (inlX4 w h)
theorem inlX5 : ∀ w ∈ wsX50, w ∈ wsL_law := fun _ h => List.mem_append_left _ (List.mem_append_left _ (List.mem_append_left _ (List.mem_append_left _ (List.mem_append_left _ (List.mem_append_left _ (List.mem_append_left _ (List.mem_append_left _ (List.mem_append_left _ (List.mem_append_right _ h)))))))))
theorem inX5 : ∀ w ∈ wsX50, w ∈ lw_tbl := fun w h => wsL_law_in w (inlX5 w h)
theorem inlX6 : ∀ w ∈ wsX60, w ∈ wsL_law := fun _ h => List.mem_append_left _ (List.mem_append_left _ (List.mem_append_left _ (List.mem_append_left _ (List.mem_append_left _ (List.mem_append_left _ (List.mem_append_left _ (List.mem_append_left _ (List.mem_append_left _ (List.mem_append_left _ (List.mem_append_left _ (List.mem_append_right _ h)))))))))))
theorem inX6 : ∀ w ∈ wsX60, w ∈ lw_tbl := fun w h => wsL_law_in w (inlX6 w h)
theorem inlX7 : ∀ w ∈ wsX70, w ∈ wsL_law := fun _ h => List.mem_append_left _ (List.mem_append_left _ (List.mem_append_left _ (List.mem_append_left _ (List.mem_append_left _ (List.mem_append_left _ (List.mem_append_left _ (List.mem_append_left _ (List.mem_append_left _ (List.mem_append_left _ (List.mem_append_right _ h))))))))))
theorem inX7 : ∀ w ∈ wsX70, w ∈ lw_tbl := fun w h => wsL_law_in w (inlX7 w h)
theorem inJx145de : ∀ w ∈ wsJx145de0, w ∈ lw_tbl := by decide +kernel
theorem inJ9 : ∀ w ∈ wsJ90, w ∈ lw_tbl := by decide +kernel
theorem inJ0 : ∀ w ∈ wsJ00, w ∈ lw_tbl := by decide +kernel
theorem inJ10 : ∀ w ∈ wsJ100, w ∈ lw_tbl := by decide +kernel
theorem inJ7 : ∀ w ∈ wsJ70, w ∈ lw_tbl := by decide +kernel
set_option maxRecDepth 20000 in
theorem ggL_addSentence_X6_addSentence : GoodIn wsL_addSentence wsX6_addSentence := goodIn_ca (goodIn_r _ [6, 7, 8, 9, 10, 11, 12, 13, 14, 15, 16, 17, 18, 19, 20, 21, 22, 23, 24, 25, 26, 27, 28, 29, 30, 31, 32, 33, 34, 35, 36, 37, 38, 39, 40] (by decide +kernel) (by decide +kernel)) (goodIn_sub (fun _ h => List.mem_cons_of_mem _ (List.mem_append_right _ h)) (by decide +kernel))
set_option maxRecDepth 20000 in
theorem gL_addSentence_X6_addSentence : GoodIn wsL_addSentence (wsV RL 7 RX6 yX6_addSentence wsX6_addSentence) := goodIn_app (goodIn_of _ (by decide +kernel)) ggL_addSentence_X6_addSentence
theorem dL_addSentence_0 : decode cL_addSentence 0 = .ok (.aload_n 1, 1) := by decide +kernel
theorem dL_addSentence_1 : decode cL_addSentence 1 = .ok (.iconst 0, 1) := by decide +kernel
theorem dL_addSentence_2 : decode cL_addSentence 2 = .ok (.aload_n 0, 1) := by decide +kernel
theorem dL_addSentence_3 : decode cL_addSentence 3 = .ok (.invokevirtual 7, 3) := by decide +kernel
theorem dL_addSentence_6 : decode cL_addSentence 6 = .ok (.i2l, 1) := by decide +kernel
theorem dL_addSentence_7 : decode cL_addSentence 7 = .ok (.lastore, 1) := by decide +kernel
theorem dL_addSentence_8 : decode cL_addSentence 8 = .ok (.goto 6, 3) := by decide +kernel
theorem dL_addSentence_11 : decode cL_addSentence 11 = .ok (.astore_n 2, 1) := by decide +kernel
theorem dL_addSentence_12 : decode cL_addSentence 12 = .ok (.iconst 1, 1) := by decide +kernel
theorem dL_addSentence_13 : decode cL_addSentence 13 = .ok (.ireturn, 1) := by decide +kernel
theorem dL_addSentence_14 : decode cL_addSentence 14 = .ok (.iconst 0, 1) := by decide +kernel
theorem dL_addSentence_15 : decode cL_addSentence 15 = .ok (.ireturn, 1) := by decide +kernel
set_option maxRecDepth 20000 in
theorem ggL_addWord_X6_addWord : GoodIn wsL_addWord wsX6_addWord := goodIn_ca (goodIn_ca (goodIn_ca (goodIn_r _ [8, 9, 10, 11, 12, 13, 14, 15, 7, 16, 17, 18, 19, 20, 21, 22, 23, 24, 25, 26, 27, 28, 29, 30, 31, 32, 33, 34, 35, 36, 37, 38, 39, 40, 41] (by decide +kernel) (by decide +kernel)) (goodIn_sub (fun _ h => List.mem_cons_of_mem _ (List.mem_append_left _ (List.mem_append_left _ (List.mem_append_right _ h)))) (by decide +kernel))) (goodIn_sub (fun _ h => List.mem_cons_of_mem _ (List.mem_append_left _ (List.mem_append_right _ h))) (by decide +kernel))) (goodIn_sub (fun _ h => List.mem_cons_of_mem _ (List.mem_append_right _ h)) (by decide +kernel))
set_option maxRecDepth 20000 in
theorem gL_addWord_X6_addWord : GoodIn wsL_addWord (wsV RL 15 RX6 yX6_addWord wsX6_addWord) := goodIn_app (goodIn_of _ (by decide +kernel)) ggL_addWord_X6_addWord
theorem dL_addWord_0 : decode cL_addWord 0 = .ok (.aload_n 3, 1) := by decide +kernel
theorem dL_addWord_1 : decode cL_addWord 1 = .ok (.iconst 0, 1) := by decide +kernel
theorem dL_addWord_2 : decode cL_addWord 2 = .ok (.aload_n 0, 1) := by decide +kernel
theorem dL_addWord_3 : decode cL_addWord 3 = .ok (.iload_n 1, 1) := by decide +kernel
theorem dL_addWord_4 : decode cL_addWord 4 = .ok (.iload_n 2, 1) := by decide +kernel
theorem dL_addWord_5 : decode cL_addWord 5 = .ok (.invokevirtual 15, 3) := by decide +kernel
theorem dL_addWord_8 : decode cL_addWord 8 = .ok (.i2l, 1) := by decide +kernel
theorem dL_addWord_9 : decode cL_addWord 9 = .ok (.lastore, 1) := by decide +kernel
theorem dL_addWord_10 : decode cL_addWord 10 = .ok (.goto 15, 3) := by decide +kernel
theorem dL_addWord_13 : decode cL_addWord 13 = .ok (.astore 4, 2) := by decide +kernel
theorem dL_addWord_15 : decode cL_addWord 15 = .ok (.iconst 1, 1) := by decide +kernel
theorem dL_addWord_16 : decode cL_addWord 16 = .ok (.ireturn, 1) := by decide +kernel
theorem dL_addWord_17 : decode cL_addWord 17 = .ok (.astore 4, 2) := by decide +kernel
theorem dL_addWord_19 : decode cL_addWord 19 = .ok (.iconst 2, 1) := by decide +kernel
theorem dL_addWord_20 : decode cL_addWord 20 = .ok (.ireturn, 1) := by decide +kernel
theorem dL_addWord_21 : decode cL_addWord 21 = .ok (.astore 4, 2) := by decide +kernel
theorem dL_addWord_23 : decode cL_addWord 23 = .ok (.iconst 3, 1) := by decide +kernel
theorem dL_addWord_24 : decode cL_addWord 24 = .ok (.ireturn, 1) := by decide +kernel
theorem dL_addWord_25 : decode cL_addWord 25 = .ok (.iconst 0, 1) := by decide +kernel
theorem dL_addWord_26 : decode cL_addWord 26 = .ok (.ireturn, 1) := by decide +kernel
set_option maxRecDepth 20000 in
theorem ggL_words_X6_words : GoodIn wsL_words wsX6_words := goodIn_ca (goodIn_r _ [6, 7, 8, 9, 5, 10, 11, 12, 13, 14, 15, 16, 17, 18, 19, 20, 21, 22, 23, 24, 25, 26, 27, 28, 29, 30] (by decide +kernel) (by decide +kernel)) (goodIn_sub (fun _ h => List.mem_cons_of_mem _ (List.mem_append_right _ h)) (by decide +kernel))
set_option maxRecDepth 20000 in
theorem gL_words_X6_words : GoodIn wsL_words (wsV RL 23 RX6 yX6_words wsX6_words) := goodIn_app (goodIn_of _ (by decide +kernel)) ggL_words_X6_words
theorem dL_words_0 : decode cL_words 0 = .ok (.aload_n 2, 1) := by decide +kernel
theorem dL_words_1 : decode cL_words 1 = .ok (.iconst 0, 1) := by decide +kernel
theorem dL_words_2 : decode cL_words 2 = .ok (.aload_n 0, 1) := by decide +kernel
theorem dL_words_3 : decode cL_words 3 = .ok (.iload_n 1, 1) := by decide +kernel
theorem dL_words_4 : decode cL_words 4 = .ok (.invokevirtual 23, 3) := by decide +kernel
theorem dL_words_7 : decode cL_words 7 = .ok (.i2l, 1) := by decide +kernel
theorem dL_words_8 : decode cL_words 8 = .ok (.lastore, 1) := by decide +kernel
theorem dL_words_9 : decode cL_words 9 = .ok (.goto 6, 3) := by decide +kernel
theorem dL_words_12 : decode cL_words 12 = .ok (.astore_n 3, 1) := by decide +kernel
theorem dL_words_13 : decode cL_words 13 = .ok (.iconst 1, 1) := by decide +kernel
theorem dL_words_14 : decode cL_words 14 = .ok (.ireturn, 1) := by decide +kernel
theorem dL_words_15 : decode cL_words 15 = .ok (.iconst 0, 1) := by decide +kernel
theorem dL_words_16 : decode cL_words 16 = .ok (.ireturn, 1) := by decide +kernel
set_option maxRecDepth 20000 in
theorem ggL_kind_X6_kind : GoodIn wsL_kind wsX6_kind := goodIn_ca (goodIn_r _ [6, 7, 8, 9, 5, 10, 11, 12, 13, 14, 15, 16, 17, 18, 19, 20, 21, 22, 23, 24, 25, 26, 27, 28, 29, 30, 31, 32, 33, 34, 35, 36, 37, 38, 39, 40] (by decide +kernel) (by decide +kernel)) (goodIn_sub (fun _ h => List.mem_cons_of_mem _ (List.mem_append_right _ h)) (by decide +kernel))
set_option maxRecDepth 20000 in
theorem gL_kind_X6_kind : GoodIn wsL_kind (wsV RL 27 RX6 yX6_kind wsX6_kind) := goodIn_app (goodIn_of _ (by decide +kernel)) ggL_kind_X6_kind
theorem dL_kind_0 : decode cL_kind 0 = .ok (.aload_n 3, 1) := by decide +kernel
theorem dL_kind_1 : decode cL_kind 1 = .ok (.iconst 0, 1) := by decide +kernel
theorem dL_kind_2 : decode cL_kind 2 = .ok (.aload_n 0, 1) := by decide +kernel
theorem dL_kind_3 : decode cL_kind 3 = .ok (.iload_n 1, 1) := by decide +kernel
theorem dL_kind_4 : decode cL_kind 4 = .ok (.iload_n 2, 1) := by decide +kernel
theorem dL_kind_5 : decode cL_kind 5 = .ok (.invokevirtual 27, 3) := by decide +kernel
theorem dL_kind_8 : decode cL_kind 8 = .ok (.i2l, 1) := by decide +kernel
theorem dL_kind_9 : decode cL_kind 9 = .ok (.lastore, 1) := by decide +kernel
theorem dL_kind_10 : decode cL_kind 10 = .ok (.goto 7, 3) := by decide +kernel
theorem dL_kind_13 : decode cL_kind 13 = .ok (.astore 4, 2) := by decide +kernel
theorem dL_kind_15 : decode cL_kind 15 = .ok (.iconst 1, 1) := by decide +kernel
theorem dL_kind_16 : decode cL_kind 16 = .ok (.ireturn, 1) := by decide +kernel
theorem dL_kind_17 : decode cL_kind 17 = .ok (.iconst 0, 1) := by decide +kernel
theorem dL_kind_18 : decode cL_kind 18 = .ok (.ireturn, 1) := by decide +kernel
set_option maxRecDepth 20000 in
theorem ggL_setWeight_X6_setWeight : GoodIn wsL_setWeight wsX6_setWeight := goodIn_ca (goodIn_ca (goodIn_r _ [7, 8, 9, 10, 11, 12, 6, 13, 14, 15, 16, 17, 18, 19, 20, 21, 22, 23, 24, 25, 26, 27, 28, 29, 30, 31, 32, 33, 34, 35, 36, 37, 38, 39, 40, 41, 42, 43, 44, 45, 46, 47, 48, 49, 50, 51, 52, 53, 54, 55, 56, 57, 58, 59, 60, 61, 62, 63, 64, 65] (by decide +kernel) (by decide +kernel)) (goodIn_sub (fun _ h => List.mem_cons_of_mem _ (List.mem_append_left _ (List.mem_append_right _ h))) (by decide +kernel))) (goodIn_sub (fun _ h => List.mem_cons_of_mem _ (List.mem_append_right _ h)) (by decide +kernel))
set_option maxRecDepth 20000 in
theorem gL_setWeight_X6_setWeight : GoodIn wsL_setWeight (wsV RL 30 RX6 yX6_setWeight wsX6_setWeight) := goodIn_app (goodIn_of _ (by decide +kernel)) ggL_setWeight_X6_setWeight
theorem dL_setWeight_0 : decode cL_setWeight 0 = .ok (.aload_n 3, 1) := by decide +kernel
theorem dL_setWeight_1 : decode cL_setWeight 1 = .ok (.iconst 0, 1) := by decide +kernel
theorem dL_setWeight_2 : decode cL_setWeight 2 = .ok (.aload_n 0, 1) := by decide +kernel
theorem dL_setWeight_3 : decode cL_setWeight 3 = .ok (.iload_n 1, 1) := by decide +kernel
theorem dL_setWeight_4 : decode cL_setWeight 4 = .ok (.iload_n 2, 1) := by decide +kernel
theorem dL_setWeight_5 : decode cL_setWeight 5 = .ok (.invokevirtual 30, 3) := by decide +kernel
theorem dL_setWeight_8 : decode cL_setWeight 8 = .ok (.i2l, 1) := by decide +kernel
theorem dL_setWeight_9 : decode cL_setWeight 9 = .ok (.lastore, 1) := by decide +kernel
theorem dL_setWeight_10 : decode cL_setWeight 10 = .ok (.goto 11, 3) := by decide +kernel
theorem dL_setWeight_13 : decode cL_setWeight 13 = .ok (.astore 4, 2) := by decide +kernel
theorem dL_setWeight_15 : decode cL_setWeight 15 = .ok (.iconst 1, 1) := by decide +kernel
theorem dL_setWeight_16 : decode cL_setWeight 16 = .ok (.ireturn, 1) := by decide +kernel
theorem dL_setWeight_17 : decode cL_setWeight 17 = .ok (.astore 4, 2) := by decide +kernel
theorem dL_setWeight_19 : decode cL_setWeight 19 = .ok (.iconst 2, 1) := by decide +kernel
theorem dL_setWeight_20 : decode cL_setWeight 20 = .ok (.ireturn, 1) := by decide +kernel
theorem dL_setWeight_21 : decode cL_setWeight 21 = .ok (.iconst 0, 1) := by decide +kernel
theorem dL_setWeight_22 : decode cL_setWeight 22 = .ok (.ireturn, 1) := by decide +kernel
set_option maxRecDepth 20000 in
theorem ggL_weight_X6_weight : GoodIn wsL_weight wsX6_weight := goodIn_ca (goodIn_r _ [6, 7, 8, 9, 5, 10, 11, 12, 13, 14, 15, 16, 17, 18, 19, 20, 21, 22, 23, 24, 25, 26, 27, 28, 29, 30, 31, 32, 33, 34, 35, 36] (by decide +kernel) (by decide +kernel)) (goodIn_sub (fun _ h => List.mem_cons_of_mem _ (List.mem_append_right _ h)) (by decide +kernel))
set_option maxRecDepth 20000 in
theorem gL_weight_X6_weight : GoodIn wsL_weight (wsV RL 33 RX6 yX6_weight wsX6_weight) := goodIn_app (goodIn_of _ (by decide +kernel)) ggL_weight_X6_weight
theorem dL_weight_0 : decode cL_weight 0 = .ok (.aload_n 2, 1) := by decide +kernel
theorem dL_weight_1 : decode cL_weight 1 = .ok (.iconst 0, 1) := by decide +kernel
theorem dL_weight_2 : decode cL_weight 2 = .ok (.aload_n 0, 1) := by decide +kernel
theorem dL_weight_3 : decode cL_weight 3 = .ok (.iload_n 1, 1) := by decide +kernel
theorem dL_weight_4 : decode cL_weight 4 = .ok (.invokevirtual 33, 3) := by decide +kernel
theorem dL_weight_7 : decode cL_weight 7 = .ok (.i2l, 1) := by decide +kernel
theorem dL_weight_8 : decode cL_weight 8 = .ok (.lastore, 1) := by decide +kernel
theorem dL_weight_9 : decode cL_weight 9 = .ok (.goto 6, 3) := by decide +kernel
theorem dL_weight_12 : decode cL_weight 12 = .ok (.astore_n 3, 1) := by decide +kernel
theorem dL_weight_13 : decode cL_weight 13 = .ok (.iconst 1, 1) := by decide +kernel
theorem dL_weight_14 : decode cL_weight 14 = .ok (.ireturn, 1) := by decide +kernel
theorem dL_weight_15 : decode cL_weight 15 = .ok (.iconst 0, 1) := by decide +kernel
theorem dL_weight_16 : decode cL_weight 16 = .ok (.ireturn, 1) := by decide +kernel
set_option maxRecDepth 20000 in
theorem ggL_feature_X6_feature : GoodIn wsL_feature wsX6_feature := goodIn_ca (goodIn_ca (goodIn_r _ [7, 8, 9, 10, 6, 11, 12, 13, 14, 15, 16, 17, 18, 19, 20, 21, 22, 23, 24, 25, 26, 27, 28, 29, 30, 31, 32, 33, 34, 35, 36, 37, 38, 39, 40, 41, 42, 43, 44, 45, 46, 47, 48, 49, 50, 51, 52, 53, 54, 55, 56, 57, 58, 59, 60] (by decide +kernel) (by decide +kernel)) (goodIn_sub (fun _ h => List.mem_cons_of_mem _ (List.mem_append_left _ (List.mem_append_right _ h))) (by decide +kernel))) (goodIn_sub (fun _ h => List.mem_cons_of_mem _ (List.mem_append_right _ h)) (by decide +kernel))
set_option maxRecDepth 20000 in
theorem gL_feature_X6_feature : GoodIn wsL_feature (wsV RL 36 RX6 yX6_feature wsX6_feature) := goodIn_app (goodIn_of _ (by decide +kernel)) ggL_feature_X6_feature
theorem dL_feature_0 : decode cL_feature 0 = .ok (.aload 5, 2) := by decide +kernel
theorem dL_feature_2 : decode cL_feature 2 = .ok (.iconst 0, 1) := by decide +kernel
theorem dL_feature_3 : decode cL_feature 3 = .ok (.aload_n 0, 1) := by decide +kernel
theorem dL_feature_4 : decode cL_feature 4 = .ok (.iload_n 1, 1) := by decide +kernel
theorem dL_feature_5 : decode cL_feature 5 = .ok (.iload_n 2, 1) := by decide +kernel
theorem dL_feature_6 : decode cL_feature 6 = .ok (.iload_n 3, 1) := by decide +kernel
theorem dL_feature_7 : decode cL_feature 7 = .ok (.iload 4, 2) := by decide +kernel
theorem dL_feature_9 : decode cL_feature 9 = .ok (.invokevirtual 36, 3) := by decide +kernel
theorem dL_feature_12 : decode cL_feature 12 = .ok (.i2l, 1) := by decide +kernel
theorem dL_feature_13 : decode cL_feature 13 = .ok (.lastore, 1) := by decide +kernel
theorem dL_feature_14 : decode cL_feature 14 = .ok (.goto 11, 3) := by decide +kernel
theorem dL_feature_17 : decode cL_feature 17 = .ok (.astore 6, 2) := by decide +kernel
theorem dL_feature_19 : decode cL_feature 19 = .ok (.iconst 1, 1) := by decide +kernel
theorem dL_feature_20 : decode cL_feature 20 = .ok (.ireturn, 1) := by decide +kernel
theorem dL_feature_21 : decode cL_feature 21 = .ok (.astore 6, 2) := by decide +kernel
theorem dL_feature_23 : decode cL_feature 23 = .ok (.iconst 2, 1) := by decide +kernel
theorem dL_feature_24 : decode cL_feature 24 = .ok (.ireturn, 1) := by decide +kernel
theorem dL_feature_25 : decode cL_feature 25 = .ok (.iconst 0, 1) := by decide +kernel
theorem dL_feature_26 : decode cL_feature 26 = .ok (.ireturn, 1) := by decide +kernel
set_option maxRecDepth 20000 in
theorem ggL_score_X6_score : GoodIn wsL_score wsX6_score := goodIn_ca (goodIn_ca (goodIn_r _ [7, 8, 9, 10, 11, 6, 12, 13, 14, 15, 16, 17, 18, 19, 20, 21, 22, 23, 24, 25, 26, 27, 28, 29, 30, 31, 32, 33, 34, 35, 36, 37, 38, 39, 40, 41, 42, 43, 44, 45, 46, 47, 48, 49, 50, 51, 52, 53, 54, 55, 56, 57, 58, 59, 60, 61, 62, 63, 64, 65, 66, 67, 68, 69, 70, 71, 72, 73, 74, 75, 76, 77, 78, 79, 80, 81] (by decide +kernel) (by decide +kernel)) (goodIn_sub (fun _ h => List.mem_cons_of_mem _ (List.mem_append_left _ (List.mem_append_right _ h))) (by decide +kernel))) (goodIn_sub (fun _ h => List.mem_cons_of_mem _ (List.mem_append_right _ h)) (by decide +kernel))
set_option maxRecDepth 20000 in
theorem gL_score_X6_score : GoodIn wsL_score (wsV RL 40 RX6 yX6_score wsX6_score) := goodIn_app (goodIn_of _ (by decide +kernel)) ggL_score_X6_score
theorem dL_score_0 : decode cL_score 0 = .ok (.aload 4, 2) := by decide +kernel
theorem dL_score_2 : decode cL_score 2 = .ok (.iconst 0, 1) := by decide +kernel
theorem dL_score_3 : decode cL_score 3 = .ok (.aload_n 0, 1) := by decide +kernel
theorem dL_score_4 : decode cL_score 4 = .ok (.iload_n 1, 1) := by decide +kernel
theorem dL_score_5 : decode cL_score 5 = .ok (.iload_n 2, 1) := by decide +kernel
theorem dL_score_6 : decode cL_score 6 = .ok (.iload_n 3, 1) := by decide +kernel
theorem dL_score_7 : decode cL_score 7 = .ok (.invokevirtual 40, 3) := by decide +kernel
theorem dL_score_10 : decode cL_score 10 = .ok (.i2l, 1) := by decide +kernel
theorem dL_score_11 : decode cL_score 11 = .ok (.lastore, 1) := by decide +kernel
theorem dL_score_12 : decode cL_score 12 = .ok (.goto 11, 3) := by decide +kernel
theorem dL_score_15 : decode cL_score 15 = .ok (.astore 5, 2) := by decide +kernel
theorem dL_score_17 : decode cL_score 17 = .ok (.iconst 1, 1) := by decide +kernel
theorem dL_score_18 : decode cL_score 18 = .ok (.ireturn, 1) := by decide +kernel
theorem dL_score_19 : decode cL_score 19 = .ok (.astore 5, 2) := by decide +kernel
theorem dL_score_21 : decode cL_score 21 = .ok (.iconst 2, 1) := by decide +kernel
theorem dL_score_22 : decode cL_score 22 = .ok (.ireturn, 1) := by decide +kernel
theorem dL_score_23 : decode cL_score 23 = .ok (.iconst 0, 1) := by decide +kernel
theorem dL_score_24 : decode cL_score 24 = .ok (.ireturn, 1) := by decide +kernel
set_option maxRecDepth 20000 in
theorem ggL_mark_X6_mark : GoodIn wsL_mark wsX6_mark := goodIn_ca (goodIn_ca (goodIn_ca (goodIn_r _ [8, 9, 10, 11, 12, 13, 14, 15, 7, 16, 17, 18, 19, 20, 21, 22, 23, 24, 25, 26, 27, 28, 29, 30, 31, 32, 33, 34, 35, 36, 37, 38, 39, 40, 41, 42, 43, 44, 45, 46, 47, 48, 49, 50, 51, 52, 53, 54, 55, 56, 57] (by decide +kernel) (by decide +kernel)) (goodIn_sub (fun _ h => List.mem_cons_of_mem _ (List.mem_append_left _ (List.mem_append_left _ (List.mem_append_right _ h)))) (by decide +kernel))) (goodIn_sub (fun _ h => List.mem_cons_of_mem _ (List.mem_append_left _ (List.mem_append_right _ h))) (by decide +kernel))) (goodIn_sub (fun _ h => List.mem_cons_of_mem _ (List.mem_append_right _ h)) (by decide +kernel))
set_option maxRecDepth 20000 in
theorem gL_mark_X6_mark : GoodIn wsL_mark (wsV RL 44 RX6 yX6_mark wsX6_mark) := goodIn_app (goodIn_of _ (by decide +kernel)) ggL_mark_X6_mark
theorem dL_mark_0 : decode cL_mark 0 = .ok (.aload 5, 2) := by decide +kernel
theorem dL_mark_2 : decode cL_mark 2 = .ok (.iconst 0, 1) := by decide +kernel
theorem dL_mark_3 : decode cL_mark 3 = .ok (.aload_n 0, 1) := by decide +kernel
theorem dL_mark_4 : decode cL_mark 4 = .ok (.iload_n 1, 1) := by decide +kernel
theorem dL_mark_5 : decode cL_mark 5 = .ok (.iload_n 2, 1) := by decide +kernel
theorem dL_mark_6 : decode cL_mark 6 = .ok (.iload_n 3, 1) := by decide +kernel
theorem dL_mark_7 : decode cL_mark 7 = .ok (.iload 4, 2) := by decide +kernel
theorem dL_mark_9 : decode cL_mark 9 = .ok (.invokevirtual 44, 3) := by decide +kernel
theorem dL_mark_12 : decode cL_mark 12 = .ok (.i2l, 1) := by decide +kernel
theorem dL_mark_13 : decode cL_mark 13 = .ok (.lastore, 1) := by decide +kernel
theorem dL_mark_14 : decode cL_mark 14 = .ok (.goto 15, 3) := by decide +kernel
theorem dL_mark_17 : decode cL_mark 17 = .ok (.astore 6, 2) := by decide +kernel
theorem dL_mark_19 : decode cL_mark 19 = .ok (.iconst 1, 1) := by decide +kernel
theorem dL_mark_20 : decode cL_mark 20 = .ok (.ireturn, 1) := by decide +kernel
theorem dL_mark_21 : decode cL_mark 21 = .ok (.astore 6, 2) := by decide +kernel
theorem dL_mark_23 : decode cL_mark 23 = .ok (.iconst 2, 1) := by decide +kernel
theorem dL_mark_24 : decode cL_mark 24 = .ok (.ireturn, 1) := by decide +kernel
theorem dL_mark_25 : decode cL_mark 25 = .ok (.astore 6, 2) := by decide +kernel
theorem dL_mark_27 : decode cL_mark 27 = .ok (.iconst 3, 1) := by decide +kernel
theorem dL_mark_28 : decode cL_mark 28 = .ok (.ireturn, 1) := by decide +kernel
theorem dL_mark_29 : decode cL_mark 29 = .ok (.iconst 0, 1) := by decide +kernel
theorem dL_mark_30 : decode cL_mark 30 = .ok (.ireturn, 1) := by decide +kernel
set_option maxRecDepth 20000 in
theorem ggL_trees_X6_trees : GoodIn wsL_trees wsX6_trees := goodIn_ca (goodIn_r _ [6, 7, 8, 9, 5, 10, 11, 12, 13, 14, 15, 16, 17, 18, 19, 20, 21, 22, 23, 24, 25, 26, 27, 28, 29, 30, 31, 32, 33, 34, 35, 36, 37, 38, 39, 40, 41, 42, 43, 44, 45, 46, 47, 48, 49, 50, 51, 52, 53, 54, 55, 56, 57, 58, 59, 60, 61, 62, 63, 64, 65, 66, 67, 68, 69, 70, 71, 72, 73, 74, 75, 76, 77, 78, 79, 80, 81, 82, 83, 84, 85, 86, 87, 88, 89, 90, 91, 92, 93, 94, 95, 96, 97, 98, 99, 100, 101, 102, 103, 104, 105, 106, 107, 108, 109, 110, 111, 112, 113, 114, 115, 116, 117, 118, 119, 120, 121, 122, 123, 124, 125, 126, 127, 128, 129, 130, 131, 132, 133, 134, 135, 136, 137, 138, 139, 140, 141, 142, 143, 144, 145, 146, 147] (by decide +kernel) (by decide +kernel)) (goodIn_sub (fun _ h => List.mem_cons_of_mem _ (List.mem_append_right _ h)) (by decide +kernel))
set_option maxRecDepth 20000 in
theorem gL_trees_X6_trees : GoodIn wsL_trees (wsV RL 48 RX6 yX6_trees wsX6_trees) := goodIn_app (goodIn_of _ (by decide +kernel)) ggL_trees_X6_trees
theorem dL_trees_0 : decode cL_trees 0 = .ok (.aload_n 3, 1) := by decide +kernel
theorem dL_trees_1 : decode cL_trees 1 = .ok (.iconst 0, 1) := by decide +kernel
theorem dL_trees_2 : decode cL_trees 2 = .ok (.aload_n 0, 1) := by decide +kernel
theorem dL_trees_3 : decode cL_trees 3 = .ok (.iload_n 1, 1) := by decide +kernel
theorem dL_trees_4 : decode cL_trees 4 = .ok (.iload_n 2, 1) := by decide +kernel
theorem dL_trees_5 : decode cL_trees 5 = .ok (.invokevirtual 48, 3) := by decide +kernel
theorem dL_trees_8 : decode cL_trees 8 = .ok (.i2l, 1) := by decide +kernel
theorem dL_trees_9 : decode cL_trees 9 = .ok (.lastore, 1) := by decide +kernel
theorem dL_trees_10 : decode cL_trees 10 = .ok (.goto 7, 3) := by decide +kernel
theorem dL_trees_13 : decode cL_trees 13 = .ok (.astore 4, 2) := by decide +kernel
theorem dL_trees_15 : decode cL_trees 15 = .ok (.iconst 1, 1) := by decide +kernel
theorem dL_trees_16 : decode cL_trees 16 = .ok (.ireturn, 1) := by decide +kernel
theorem dL_trees_17 : decode cL_trees 17 = .ok (.iconst 0, 1) := by decide +kernel
theorem dL_trees_18 : decode cL_trees 18 = .ok (.ireturn, 1) := by decide +kernel
set_option maxRecDepth 20000 in
theorem ggL_best_X6_best : GoodIn wsL_best wsX6_best := goodIn_ca (goodIn_ca (goodIn_r _ [7, 8, 9, 10, 6, 11, 12, 13, 14, 15, 16, 17, 18, 19, 20, 21, 22, 23, 24, 25, 26, 27, 28, 29, 30, 31, 32, 33, 34, 35, 36, 37, 38, 39, 40, 41, 42, 43, 44, 45, 46, 47, 48, 49, 50, 51, 52, 53, 54, 55, 56, 57, 58, 59, 60, 61, 62, 63, 64, 65, 66, 67, 68, 69, 70, 71, 72, 73, 74, 75, 76, 77, 78, 79, 80, 81, 82, 83, 84, 85, 86, 87, 88, 89, 90, 91, 92, 93, 94, 95, 96, 97, 98, 99, 100, 101, 102, 103, 104, 105, 106, 107, 108, 109, 110, 111, 112, 113, 114, 115, 116, 117, 118, 119, 120, 121, 122, 123, 124, 125, 126, 127, 128, 129, 130, 131, 132, 133, 134, 135, 136, 137, 138, 139, 140, 141, 142, 143, 144, 145, 146, 147, 148, 149, 150, 151, 152, 153, 154, 155, 156, 157, 158, 159, 160, 161, 162, 163, 164, 165, 166, 167, 168, 169, 170, 171, 172, 173, 174, 175, 176, 177, 178, 179, 180, 181, 182, 183, 184, 185, 186, 187, 188, 189, 190, 191, 192, 193, 194, 195, 196, 197, 198, 199, 200, 201, 202, 203, 204, 205, 206, 207, 208, 209, 210, 211, 212, 213] (by decide +kernel) (by decide +kernel)) (goodIn_sub (fun _ h => List.mem_cons_of_mem _ (List.mem_append_left _ (List.mem_append_right _ h))) (by decide +kernel))) (goodIn_sub (fun _ h => List.mem_cons_of_mem _ (List.mem_append_right _ h)) (by decide +kernel))
set_option maxRecDepth 20000 in
theorem gL_best_X6_best : GoodIn wsL_best (wsV RL 52 RX6 yX6_best wsX6_best) := goodIn_app (goodIn_of _ (by decide +kernel)) ggL_best_X6_best
theorem dL_best_0 : decode cL_best 0 = .ok (.aload_n 3, 1) := by decide +kernel
theorem dL_best_1 : decode cL_best 1 = .ok (.iconst 0, 1) := by decide +kernel
theorem dL_best_2 : decode cL_best 2 = .ok (.aload_n 0, 1) := by decide +kernel
theorem dL_best_3 : decode cL_best 3 = .ok (.iload_n 1, 1) := by decide +kernel
theorem dL_best_4 : decode cL_best 4 = .ok (.iload_n 2, 1) := by decide +kernel
theorem dL_best_5 : decode cL_best 5 = .ok (.invokevirtual 52, 3) := by decide +kernel
theorem dL_best_8 : decode cL_best 8 = .ok (.i2l, 1) := by decide +kernel
theorem dL_best_9 : decode cL_best 9 = .ok (.lastore, 1) := by decide +kernel
theorem dL_best_10 : decode cL_best 10 = .ok (.goto 11, 3) := by decide +kernel
theorem dL_best_13 : decode cL_best 13 = .ok (.astore 4, 2) := by decide +kernel
theorem dL_best_15 : decode cL_best 15 = .ok (.iconst 1, 1) := by decide +kernel
theorem dL_best_16 : decode cL_best 16 = .ok (.ireturn, 1) := by decide +kernel
theorem dL_best_17 : decode cL_best 17 = .ok (.astore 4, 2) := by decide +kernel
theorem dL_best_19 : decode cL_best 19 = .ok (.iconst 2, 1) := by decide +kernel
theorem dL_best_20 : decode cL_best 20 = .ok (.ireturn, 1) := by decide +kernel
theorem dL_best_21 : decode cL_best 21 = .ok (.iconst 0, 1) := by decide +kernel
theorem dL_best_22 : decode cL_best 22 = .ok (.ireturn, 1) := by decide +kernel
set_option maxRecDepth 20000 in
theorem ggL_bestByTrying_X6_bestByTrying : GoodIn wsL_bestByTrying wsX6_bestByTrying := goodIn_ca (goodIn_ca (goodIn_r _ [7, 8, 9, 10, 6, 11, 12, 13, 14, 15, 16, 17, 18, 19, 20, 21, 22, 23, 24, 25, 26, 27, 28, 29, 30, 31, 32, 33, 34, 35, 36, 37, 38, 39, 40, 41, 42, 43, 44, 45, 46, 47, 48, 49, 50, 51, 52, 53, 54, 55, 56, 57, 58, 59, 60, 61, 62, 63, 64, 65, 66, 67, 68, 69, 70, 71, 72, 73, 74, 75, 76, 77, 78, 79, 80, 81, 82, 83, 84, 85, 86, 87, 88, 89, 90, 91, 92, 93, 94, 95, 96, 97, 98, 99, 100, 101, 102, 103, 104, 105, 106, 107, 108, 109, 110, 111, 112, 113, 114, 115, 116, 117, 118, 119, 120, 121, 122, 123, 124, 125, 126, 127, 128, 129, 130, 131, 132, 133, 134, 135, 136, 137, 138, 139, 140, 141, 142, 143, 144, 145, 146, 147, 148, 149, 150, 151, 152, 153, 154, 155, 156, 157, 158, 159, 160, 161, 162, 163, 164, 165, 166, 167, 168] (by decide +kernel) (by decide +kernel)) (goodIn_sub (fun _ h => List.mem_cons_of_mem _ (List.mem_append_left _ (List.mem_append_right _ h))) (by decide +kernel))) (goodIn_sub (fun _ h => List.mem_cons_of_mem _ (List.mem_append_right _ h)) (by decide +kernel))
set_option maxRecDepth 20000 in
theorem gL_bestByTrying_X6_bestByTrying : GoodIn wsL_bestByTrying (wsV RL 55 RX6 yX6_bestByTrying wsX6_bestByTrying) := goodIn_app (goodIn_of _ (by decide +kernel)) ggL_bestByTrying_X6_bestByTrying
theorem dL_bestByTrying_0 : decode cL_bestByTrying 0 = .ok (.aload_n 3, 1) := by decide +kernel
theorem dL_bestByTrying_1 : decode cL_bestByTrying 1 = .ok (.iconst 0, 1) := by decide +kernel
theorem dL_bestByTrying_2 : decode cL_bestByTrying 2 = .ok (.aload_n 0, 1) := by decide +kernel
theorem dL_bestByTrying_3 : decode cL_bestByTrying 3 = .ok (.iload_n 1, 1) := by decide +kernel
theorem dL_bestByTrying_4 : decode cL_bestByTrying 4 = .ok (.iload_n 2, 1) := by decide +kernel
theorem dL_bestByTrying_5 : decode cL_bestByTrying 5 = .ok (.invokevirtual 55, 3) := by decide +kernel
theorem dL_bestByTrying_8 : decode cL_bestByTrying 8 = .ok (.i2l, 1) := by decide +kernel
theorem dL_bestByTrying_9 : decode cL_bestByTrying 9 = .ok (.lastore, 1) := by decide +kernel
theorem dL_bestByTrying_10 : decode cL_bestByTrying 10 = .ok (.goto 11, 3) := by decide +kernel
theorem dL_bestByTrying_13 : decode cL_bestByTrying 13 = .ok (.astore 4, 2) := by decide +kernel
theorem dL_bestByTrying_15 : decode cL_bestByTrying 15 = .ok (.iconst 1, 1) := by decide +kernel
theorem dL_bestByTrying_16 : decode cL_bestByTrying 16 = .ok (.ireturn, 1) := by decide +kernel
theorem dL_bestByTrying_17 : decode cL_bestByTrying 17 = .ok (.astore 4, 2) := by decide +kernel
theorem dL_bestByTrying_19 : decode cL_bestByTrying 19 = .ok (.iconst 2, 1) := by decide +kernel
theorem dL_bestByTrying_20 : decode cL_bestByTrying 20 = .ok (.ireturn, 1) := by decide +kernel
theorem dL_bestByTrying_21 : decode cL_bestByTrying 21 = .ok (.iconst 0, 1) := by decide +kernel
theorem dL_bestByTrying_22 : decode cL_bestByTrying 22 = .ok (.ireturn, 1) := by decide +kernel
set_option maxRecDepth 20000 in
theorem ggL_head_X6_head : GoodIn wsL_head wsX6_head := goodIn_ca (goodIn_ca (goodIn_r _ [7, 8, 9, 10, 6, 11, 12, 13, 14, 15, 16, 17, 18, 19, 20, 21, 22, 23, 24, 25, 26, 27, 28, 29, 30, 31, 32, 33, 34, 35, 36, 37, 38, 39, 40, 41, 42, 43, 44, 45, 46, 47, 48, 49, 50, 51, 52, 53, 54, 55, 56, 57, 58, 59, 60, 61, 62, 63, 64, 65, 66, 67, 68, 69, 70, 71, 72, 73, 74, 75, 76, 77, 78, 79, 80, 81, 82, 83, 84, 85, 86, 87, 88, 89, 90, 91, 92, 93, 94, 95, 96, 97, 98, 99, 100, 101, 102, 103, 104, 105, 106, 107, 108, 109, 110, 111, 112, 113, 114, 115, 116, 117, 118, 119, 120, 121, 122, 123, 124, 125, 126, 127, 128, 129, 130, 131, 132, 133, 134, 135, 136, 137, 138, 139, 140, 141, 142, 143, 144, 145, 146, 147, 148, 149, 150, 151, 152, 153, 154, 155, 156, 157, 158, 159, 160, 161, 162, 163, 164, 165, 166, 167, 168, 169, 170, 171, 172, 173, 174, 175, 176, 177, 178, 179, 180, 181, 182, 183, 184, 185, 186, 187, 188, 189, 190, 191, 192, 193, 194, 195, 196, 197, 198, 199, 200, 201, 202, 203, 204, 205, 206, 207, 208, 209, 210, 211, 212, 213, 214, 215, 216, 217, 218] (by decide +kernel) (by decide +kernel)) (goodIn_sub (fun _ h => List.mem_cons_of_mem _ (List.mem_append_left _ (List.mem_append_right _ h))) (by decide +kernel))) (goodIn_sub (fun _ h => List.mem_cons_of_mem _ (List.mem_append_right _ h)) (by decide +kernel))
set_option maxRecDepth 20000 in
theorem gL_head_X6_head : GoodIn wsL_head (wsV RL 58 RX6 yX6_head wsX6_head) := goodIn_app (goodIn_of _ (by decide +kernel)) ggL_head_X6_head
theorem dL_head_0 : decode cL_head 0 = .ok (.aload 4, 2) := by decide +kernel
theorem dL_head_2 : decode cL_head 2 = .ok (.iconst 0, 1) := by decide +kernel
theorem dL_head_3 : decode cL_head 3 = .ok (.aload_n 0, 1) := by decide +kernel
theorem dL_head_4 : decode cL_head 4 = .ok (.iload_n 1, 1) := by decide +kernel
theorem dL_head_5 : decode cL_head 5 = .ok (.iload_n 2, 1) := by decide +kernel
theorem dL_head_6 : decode cL_head 6 = .ok (.iload_n 3, 1) := by decide +kernel
theorem dL_head_7 : decode cL_head 7 = .ok (.invokevirtual 58, 3) := by decide +kernel
theorem dL_head_10 : decode cL_head 10 = .ok (.i2l, 1) := by decide +kernel
theorem dL_head_11 : decode cL_head 11 = .ok (.lastore, 1) := by decide +kernel
theorem dL_head_12 : decode cL_head 12 = .ok (.goto 11, 3) := by decide +kernel
theorem dL_head_15 : decode cL_head 15 = .ok (.astore 5, 2) := by decide +kernel
theorem dL_head_17 : decode cL_head 17 = .ok (.iconst 1, 1) := by decide +kernel
theorem dL_head_18 : decode cL_head 18 = .ok (.ireturn, 1) := by decide +kernel
theorem dL_head_19 : decode cL_head 19 = .ok (.astore 5, 2) := by decide +kernel
theorem dL_head_21 : decode cL_head 21 = .ok (.iconst 2, 1) := by decide +kernel
theorem dL_head_22 : decode cL_head 22 = .ok (.ireturn, 1) := by decide +kernel
theorem dL_head_23 : decode cL_head 23 = .ok (.iconst 0, 1) := by decide +kernel
theorem dL_head_24 : decode cL_head 24 = .ok (.ireturn, 1) := by decide +kernel
set_option maxRecDepth 20000 in
theorem ggL_crossings_X6_crossings : GoodIn wsL_crossings wsX6_crossings := goodIn_ca (goodIn_ca (goodIn_r _ [7, 8, 9, 10, 6, 11, 12, 13, 14, 15, 16, 17, 18, 19, 20, 21, 22, 23, 24, 25, 26, 27, 28, 29, 30, 31, 32, 33, 34, 35, 36, 37, 38, 39, 40, 41, 42, 43, 44, 45, 46, 47, 48, 49, 50, 51, 52, 53, 54, 55, 56, 57, 58, 59, 60, 61, 62, 63, 64, 65, 66, 67, 68, 69, 70, 71, 72, 73, 74, 75, 76, 77, 78, 79, 80, 81, 82, 83, 84, 85, 86, 87, 88, 89, 90, 91, 92, 93, 94, 95, 96, 97, 98, 99, 100, 101, 102, 103, 104, 105, 106, 107, 108, 109, 110, 111, 112, 113, 114, 115, 116, 117, 118, 119, 120, 121, 122, 123, 124, 125, 126, 127, 128, 129, 130, 131, 132, 133, 134, 135, 136, 137, 138, 139, 140, 141, 142, 143, 144, 145, 146, 147, 148, 149, 150, 151, 152, 153, 154, 155, 156, 157, 158, 159, 160, 161, 162, 163, 164, 165, 166, 167, 168, 169, 170, 171, 172, 173, 174, 175, 176, 177, 178, 179, 180, 181, 182, 183, 184, 185, 186, 187, 188, 189, 190, 191, 192, 193, 194, 195, 196, 197, 198, 199, 200, 201, 202, 203, 204, 205, 206, 207, 208, 209, 210, 211, 212, 213, 214, 215, 216, 217, 218, 219, 220, 221] (by decide +kernel) (by decide +kernel)) (goodIn_sub (fun _ h => List.mem_cons_of_mem _ (List.mem_append_left _ (List.mem_append_right _ h))) (by decide +kernel))) (goodIn_sub (fun _ h => List.mem_cons_of_mem _ (List.mem_append_right _ h)) (by decide +kernel))
set_option maxRecDepth 20000 in
theorem gL_crossings_X6_crossings : GoodIn wsL_crossings (wsV RL 62 RX6 yX6_crossings wsX6_crossings) := goodIn_app (goodIn_of _ (by decide +kernel)) ggL_crossings_X6_crossings
theorem dL_crossings_0 : decode cL_crossings 0 = .ok (.aload_n 2, 1) := by decide +kernel
theorem dL_crossings_1 : decode cL_crossings 1 = .ok (.iconst 0, 1) := by decide +kernel
theorem dL_crossings_2 : decode cL_crossings 2 = .ok (.aload_n 0, 1) := by decide +kernel
theorem dL_crossings_3 : decode cL_crossings 3 = .ok (.iload_n 1, 1) := by decide +kernel
theorem dL_crossings_4 : decode cL_crossings 4 = .ok (.invokevirtual 62, 3) := by decide +kernel
theorem dL_crossings_7 : decode cL_crossings 7 = .ok (.i2l, 1) := by decide +kernel
theorem dL_crossings_8 : decode cL_crossings 8 = .ok (.lastore, 1) := by decide +kernel
theorem dL_crossings_9 : decode cL_crossings 9 = .ok (.goto 9, 3) := by decide +kernel
theorem dL_crossings_12 : decode cL_crossings 12 = .ok (.astore_n 3, 1) := by decide +kernel
theorem dL_crossings_13 : decode cL_crossings 13 = .ok (.iconst 1, 1) := by decide +kernel
theorem dL_crossings_14 : decode cL_crossings 14 = .ok (.ireturn, 1) := by decide +kernel
theorem dL_crossings_15 : decode cL_crossings 15 = .ok (.astore_n 3, 1) := by decide +kernel
theorem dL_crossings_16 : decode cL_crossings 16 = .ok (.iconst 2, 1) := by decide +kernel
theorem dL_crossings_17 : decode cL_crossings 17 = .ok (.ireturn, 1) := by decide +kernel
theorem dL_crossings_18 : decode cL_crossings 18 = .ok (.iconst 0, 1) := by decide +kernel
theorem dL_crossings_19 : decode cL_crossings 19 = .ok (.ireturn, 1) := by decide +kernel
set_option maxRecDepth 20000 in
theorem ggL_ranked_X6_ranked : GoodIn wsL_ranked wsX6_ranked := goodIn_ca (goodIn_r _ [6, 7, 8, 9, 5, 10, 11, 12, 13, 14, 15, 16, 17, 18, 19, 20, 21, 22, 23, 24, 25, 26, 27, 28, 29, 30, 31, 32, 33, 34, 35, 36, 37, 38, 39, 40, 41, 42, 43, 44, 45, 46, 47, 48, 49, 50, 51, 52, 53, 54, 55, 56, 57, 58, 59, 60, 61, 62, 63, 64, 65, 66, 67, 68, 69, 70, 71, 72, 73, 74, 75, 76, 77, 78, 79, 80, 81, 82, 83, 84, 85, 86, 87, 88, 89, 90, 91, 92, 93, 94, 95, 96, 97, 98, 99, 100, 101, 102, 103, 104, 105, 106, 107, 108, 109, 110, 111, 112, 113, 114, 115, 116, 117, 118, 119, 120, 121, 122, 123, 124, 125, 126, 127, 128, 129, 130, 131, 132, 133, 134, 135, 136, 137, 138, 139, 140, 141, 142, 143, 144, 145, 146, 147, 148, 149, 150, 151, 152, 153, 154, 155, 156, 157, 158, 159, 160, 161, 162, 163, 164, 165, 166, 167, 168, 169, 170, 171, 172, 173, 174, 175, 176, 177, 178, 179, 180, 181, 182, 183, 184, 185] (by decide +kernel) (by decide +kernel)) (goodIn_sub (fun _ h => List.mem_cons_of_mem _ (List.mem_append_right _ h)) (by decide +kernel))
set_option maxRecDepth 20000 in
theorem gL_ranked_X6_ranked : GoodIn wsL_ranked (wsV RL 65 RX6 yX6_ranked wsX6_ranked) := goodIn_app (goodIn_of _ (by decide +kernel)) ggL_ranked_X6_ranked
theorem dL_ranked_0 : decode cL_ranked 0 = .ok (.aload 4, 2) := by decide +kernel
theorem dL_ranked_2 : decode cL_ranked 2 = .ok (.iconst 0, 1) := by decide +kernel
theorem dL_ranked_3 : decode cL_ranked 3 = .ok (.aload_n 0, 1) := by decide +kernel
theorem dL_ranked_4 : decode cL_ranked 4 = .ok (.iload_n 1, 1) := by decide +kernel
theorem dL_ranked_5 : decode cL_ranked 5 = .ok (.iload_n 2, 1) := by decide +kernel
theorem dL_ranked_6 : decode cL_ranked 6 = .ok (.iload_n 3, 1) := by decide +kernel
theorem dL_ranked_7 : decode cL_ranked 7 = .ok (.invokevirtual 65, 3) := by decide +kernel
theorem dL_ranked_10 : decode cL_ranked 10 = .ok (.i2l, 1) := by decide +kernel
theorem dL_ranked_11 : decode cL_ranked 11 = .ok (.lastore, 1) := by decide +kernel
theorem dL_ranked_12 : decode cL_ranked 12 = .ok (.goto 7, 3) := by decide +kernel
theorem dL_ranked_15 : decode cL_ranked 15 = .ok (.astore 5, 2) := by decide +kernel
theorem dL_ranked_17 : decode cL_ranked 17 = .ok (.iconst 1, 1) := by decide +kernel
theorem dL_ranked_18 : decode cL_ranked 18 = .ok (.ireturn, 1) := by decide +kernel
theorem dL_ranked_19 : decode cL_ranked 19 = .ok (.iconst 0, 1) := by decide +kernel
theorem dL_ranked_20 : decode cL_ranked 20 = .ok (.ireturn, 1) := by decide +kernel
set_option maxRecDepth 20000 in
theorem ggL_rankedHead_X6_rankedHead : GoodIn wsL_rankedHead wsX6_rankedHead := goodIn_ca (goodIn_r _ [6, 7, 8, 9, 5, 10, 11, 12, 13, 14, 15, 16, 17, 18, 19, 20, 21, 22, 23, 24, 25, 26, 27, 28, 29, 30, 31, 32, 33, 34, 35, 36, 37, 38, 39, 40, 41, 42, 43, 44, 45, 46, 47, 48, 49, 50, 51, 52, 53, 54, 55, 56, 57, 58, 59, 60, 61, 62, 63, 64, 65, 66, 67, 68, 69, 70, 71, 72, 73, 74, 75, 76, 77, 78, 79, 80, 81, 82, 83, 84, 85, 86, 87, 88, 89, 90, 91, 92, 93, 94, 95, 96, 97, 98, 99, 100, 101, 102, 103, 104, 105, 106, 107, 108, 109, 110, 111, 112, 113, 114, 115, 116, 117, 118, 119, 120, 121, 122, 123, 124, 125, 126, 127, 128, 129, 130, 131, 132, 133, 134, 135, 136, 137, 138, 139, 140, 141, 142, 143, 144, 145, 146, 147, 148, 149, 150, 151, 152, 153, 154, 155, 156, 157, 158, 159, 160, 161, 162, 163, 164, 165, 166, 167, 168, 169, 170, 171, 172, 173, 174, 175, 176, 177, 178, 179, 180, 181, 182, 183, 184, 185, 186, 187, 188, 189, 190] (by decide +kernel) (by decide +kernel)) (goodIn_sub (fun _ h => List.mem_cons_of_mem _ (List.mem_append_right _ h)) (by decide +kernel))
set_option maxRecDepth 20000 in
theorem gL_rankedHead_X6_rankedHead : GoodIn wsL_rankedHead (wsV RL 68 RX6 yX6_rankedHead wsX6_rankedHead) := goodIn_app (goodIn_of _ (by decide +kernel)) ggL_rankedHead_X6_rankedHead
theorem dL_rankedHead_0 : decode cL_rankedHead 0 = .ok (.aload 5, 2) := by decide +kernel
theorem dL_rankedHead_2 : decode cL_rankedHead 2 = .ok (.iconst 0, 1) := by decide +kernel
theorem dL_rankedHead_3 : decode cL_rankedHead 3 = .ok (.aload_n 0, 1) := by decide +kernel
theorem dL_rankedHead_4 : decode cL_rankedHead 4 = .ok (.iload_n 1, 1) := by decide +kernel
theorem dL_rankedHead_5 : decode cL_rankedHead 5 = .ok (.iload_n 2, 1) := by decide +kernel
theorem dL_rankedHead_6 : decode cL_rankedHead 6 = .ok (.iload_n 3, 1) := by decide +kernel
theorem dL_rankedHead_7 : decode cL_rankedHead 7 = .ok (.iload 4, 2) := by decide +kernel
theorem dL_rankedHead_9 : decode cL_rankedHead 9 = .ok (.invokevirtual 68, 3) := by decide +kernel
theorem dL_rankedHead_12 : decode cL_rankedHead 12 = .ok (.i2l, 1) := by decide +kernel
theorem dL_rankedHead_13 : decode cL_rankedHead 13 = .ok (.lastore, 1) := by decide +kernel
theorem dL_rankedHead_14 : decode cL_rankedHead 14 = .ok (.goto 7, 3) := by decide +kernel
theorem dL_rankedHead_17 : decode cL_rankedHead 17 = .ok (.astore 6, 2) := by decide +kernel
theorem dL_rankedHead_19 : decode cL_rankedHead 19 = .ok (.iconst 1, 1) := by decide +kernel
theorem dL_rankedHead_20 : decode cL_rankedHead 20 = .ok (.ireturn, 1) := by decide +kernel
theorem dL_rankedHead_21 : decode cL_rankedHead 21 = .ok (.iconst 0, 1) := by decide +kernel
theorem dL_rankedHead_22 : decode cL_rankedHead 22 = .ok (.ireturn, 1) := by decide +kernel
set_option maxRecDepth 20000 in
theorem ggL_correct_X6_correct : GoodIn wsL_correct wsX6_correct := goodIn_ca (goodIn_ca (goodIn_r _ [7, 8, 9, 10, 6, 11, 12, 13, 14, 15, 16, 17, 18, 19, 20, 21, 22, 23, 24, 25, 26, 27, 28, 29, 30, 31, 32, 33, 34, 35, 36, 37, 38, 39, 40, 41, 42, 43, 44, 45, 46, 47, 48, 49, 50] (by decide +kernel) (by decide +kernel)) (goodIn_sub (fun _ h => List.mem_cons_of_mem _ (List.mem_append_left _ (List.mem_append_right _ h))) (by decide +kernel))) (goodIn_sub (fun _ h => List.mem_cons_of_mem _ (List.mem_append_right _ h)) (by decide +kernel))
set_option maxRecDepth 20000 in
theorem gL_correct_X6_correct : GoodIn wsL_correct (wsV RL 72 RX6 yX6_correct wsX6_correct) := goodIn_app (goodIn_of _ (by decide +kernel)) ggL_correct_X6_correct
theorem dL_correct_0 : decode cL_correct 0 = .ok (.aload 4, 2) := by decide +kernel
theorem dL_correct_2 : decode cL_correct 2 = .ok (.iconst 0, 1) := by decide +kernel
theorem dL_correct_3 : decode cL_correct 3 = .ok (.aload_n 0, 1) := by decide +kernel
theorem dL_correct_4 : decode cL_correct 4 = .ok (.iload_n 1, 1) := by decide +kernel
theorem dL_correct_5 : decode cL_correct 5 = .ok (.iload_n 2, 1) := by decide +kernel
theorem dL_correct_6 : decode cL_correct 6 = .ok (.iload_n 3, 1) := by decide +kernel
theorem dL_correct_7 : decode cL_correct 7 = .ok (.invokevirtual 72, 3) := by decide +kernel
theorem dL_correct_10 : decode cL_correct 10 = .ok (.i2l, 1) := by decide +kernel
theorem dL_correct_11 : decode cL_correct 11 = .ok (.lastore, 1) := by decide +kernel
theorem dL_correct_12 : decode cL_correct 12 = .ok (.goto 11, 3) := by decide +kernel
theorem dL_correct_15 : decode cL_correct 15 = .ok (.astore 5, 2) := by decide +kernel
theorem dL_correct_17 : decode cL_correct 17 = .ok (.iconst 1, 1) := by decide +kernel
theorem dL_correct_18 : decode cL_correct 18 = .ok (.ireturn, 1) := by decide +kernel
theorem dL_correct_19 : decode cL_correct 19 = .ok (.astore 5, 2) := by decide +kernel
theorem dL_correct_21 : decode cL_correct 21 = .ok (.iconst 2, 1) := by decide +kernel
theorem dL_correct_22 : decode cL_correct 22 = .ok (.ireturn, 1) := by decide +kernel
theorem dL_correct_23 : decode cL_correct 23 = .ok (.iconst 0, 1) := by decide +kernel
theorem dL_correct_24 : decode cL_correct 24 = .ok (.ireturn, 1) := by decide +kernel
set_option maxRecDepth 20000 in
theorem ggL_matched_X6_matched : GoodIn wsL_matched wsX6_matched := goodIn_ca (goodIn_ca (goodIn_r _ [7, 8, 9, 10, 6, 11, 12, 13, 14, 15, 16, 17, 18, 19, 20, 21, 22, 23, 24, 25, 26, 27, 28, 29, 30, 31, 32, 33, 34, 35, 36, 37, 38, 39, 40, 41, 42, 43, 44, 45, 46, 47, 48, 49, 50, 51, 52, 53, 54, 55, 56, 57, 58, 59, 60, 61, 62, 63, 64, 65, 66, 67, 68, 69, 70, 71, 72, 73, 74, 75, 76, 77, 78, 79, 80, 81, 82, 83, 84, 85, 86, 87, 88, 89, 90, 91, 92, 93, 94, 95, 96, 97, 98, 99, 100, 101, 102, 103, 104, 105, 106, 107, 108, 109, 110, 111, 112, 113, 114, 115, 116, 117, 118, 119, 120, 121, 122, 123, 124, 125, 126, 127, 128, 129, 130, 131, 132, 133, 134, 135, 136, 137, 138, 139, 140, 141, 142, 143, 144, 145, 146, 147, 148, 149, 150, 151, 152, 153, 154, 155, 156, 157, 158, 159, 160, 161, 162, 163, 164, 165, 166, 167, 168, 169, 170, 171, 172, 173, 174, 175, 176, 177, 178, 179, 180, 181, 182, 183, 184, 185, 186, 187, 188, 189, 190, 191, 192, 193, 194, 195, 196, 197, 198, 199, 200, 201, 202, 203, 204, 205, 206, 207, 208, 209, 210, 211, 212, 213, 214, 215, 216, 217, 218, 219, 220] (by decide +kernel) (by decide +kernel)) (goodIn_sub (fun _ h => List.mem_cons_of_mem _ (List.mem_append_left _ (List.mem_append_right _ h))) (by decide +kernel))) (goodIn_sub (fun _ h => List.mem_cons_of_mem _ (List.mem_append_right _ h)) (by decide +kernel))
set_option maxRecDepth 20000 in
theorem gL_matched_X6_matched : GoodIn wsL_matched (wsV RL 75 RX6 yX6_matched wsX6_matched) := goodIn_app (goodIn_of _ (by decide +kernel)) ggL_matched_X6_matched
theorem dL_matched_0 : decode cL_matched 0 = .ok (.aload_n 2, 1) := by decide +kernel
theorem dL_matched_1 : decode cL_matched 1 = .ok (.iconst 0, 1) := by decide +kernel
theorem dL_matched_2 : decode cL_matched 2 = .ok (.aload_n 0, 1) := by decide +kernel
theorem dL_matched_3 : decode cL_matched 3 = .ok (.iload_n 1, 1) := by decide +kernel
theorem dL_matched_4 : decode cL_matched 4 = .ok (.invokevirtual 75, 3) := by decide +kernel
theorem dL_matched_7 : decode cL_matched 7 = .ok (.i2l, 1) := by decide +kernel
theorem dL_matched_8 : decode cL_matched 8 = .ok (.lastore, 1) := by decide +kernel
theorem dL_matched_9 : decode cL_matched 9 = .ok (.goto 9, 3) := by decide +kernel
theorem dL_matched_12 : decode cL_matched 12 = .ok (.astore_n 3, 1) := by decide +kernel
theorem dL_matched_13 : decode cL_matched 13 = .ok (.iconst 1, 1) := by decide +kernel
theorem dL_matched_14 : decode cL_matched 14 = .ok (.ireturn, 1) := by decide +kernel
theorem dL_matched_15 : decode cL_matched 15 = .ok (.astore_n 3, 1) := by decide +kernel
theorem dL_matched_16 : decode cL_matched 16 = .ok (.iconst 2, 1) := by decide +kernel
theorem dL_matched_17 : decode cL_matched 17 = .ok (.ireturn, 1) := by decide +kernel
theorem dL_matched_18 : decode cL_matched 18 = .ok (.iconst 0, 1) := by decide +kernel
theorem dL_matched_19 : decode cL_matched 19 = .ok (.ireturn, 1) := by decide +kernel
set_option maxRecDepth 20000 in
theorem ggL_mend_X6_mend : GoodIn wsL_mend wsX6_mend := goodIn_ca (goodIn_ca (goodIn_r _ [7, 8, 9, 10, 11, 12, 13, 6, 14, 15, 16, 17, 18, 19, 20, 21, 22, 23, 24, 25, 26, 27, 28, 29, 30, 31, 32, 33, 34, 35, 36, 37, 38, 39, 40, 41, 42, 43, 44, 45, 46, 47, 48, 49, 50, 51, 52, 53, 54, 55, 56, 57, 58, 59, 60, 61, 62, 63, 64, 65, 66, 67, 68, 69, 70, 71, 72, 73, 74, 75, 76, 77, 78, 79, 80, 81, 82, 83, 84, 85, 86, 87, 88, 89, 90, 91, 92, 93, 94, 95, 96, 97, 98, 99, 100, 101, 102, 103, 104, 105, 106, 107, 108, 109, 110, 111, 112, 113, 114, 115, 116, 117, 118, 119, 120, 121, 122, 123, 124, 125, 126, 127, 128, 129, 130, 131, 132, 133, 134, 135, 136, 137, 138, 139, 140, 141, 142, 143, 144, 145, 146, 147, 148, 149, 150, 151, 152, 153, 154, 155, 156, 157, 158, 159, 160, 161, 162, 163, 164, 165, 166, 167, 168, 169, 170, 171, 172, 173, 174, 175, 176, 177, 178, 179, 180, 181, 182, 183, 184, 185, 186, 187, 188, 189, 190, 191, 192, 193, 194, 195, 196, 197, 198, 199, 200, 201, 202, 203, 204, 205, 206, 207, 208, 209, 210, 211, 212, 213, 214, 215, 216, 217, 218, 219, 220, 221, 222, 223, 224, 225, 226, 227, 228, 229, 230, 231, 232, 233, 234, 235, 236, 237, 238, 239, 240, 241, 242, 243, 244, 245, 246, 247, 248, 249, 250, 251, 252, 253, 254, 255, 256] (by decide +kernel) (by decide +kernel)) (goodIn_sub (fun _ h => List.mem_cons_of_mem _ (List.mem_append_left _ (List.mem_append_right _ h))) (by decide +kernel))) (goodIn_sub (fun _ h => List.mem_cons_of_mem _ (List.mem_append_right _ h)) (by decide +kernel))
set_option maxRecDepth 20000 in
theorem gL_mend_X6_mend : GoodIn wsL_mend (wsV RL 78 RX6 yX6_mend wsX6_mend) := goodIn_app (goodIn_of _ (by decide +kernel)) ggL_mend_X6_mend
theorem dL_mend_0 : decode cL_mend 0 = .ok (.aload_n 2, 1) := by decide +kernel
theorem dL_mend_1 : decode cL_mend 1 = .ok (.iconst 0, 1) := by decide +kernel
theorem dL_mend_2 : decode cL_mend 2 = .ok (.aload_n 0, 1) := by decide +kernel
theorem dL_mend_3 : decode cL_mend 3 = .ok (.iload_n 1, 1) := by decide +kernel
theorem dL_mend_4 : decode cL_mend 4 = .ok (.invokevirtual 78, 3) := by decide +kernel
theorem dL_mend_7 : decode cL_mend 7 = .ok (.i2l, 1) := by decide +kernel
theorem dL_mend_8 : decode cL_mend 8 = .ok (.lastore, 1) := by decide +kernel
theorem dL_mend_9 : decode cL_mend 9 = .ok (.goto 9, 3) := by decide +kernel
theorem dL_mend_12 : decode cL_mend 12 = .ok (.astore_n 3, 1) := by decide +kernel
theorem dL_mend_13 : decode cL_mend 13 = .ok (.iconst 1, 1) := by decide +kernel
theorem dL_mend_14 : decode cL_mend 14 = .ok (.ireturn, 1) := by decide +kernel
theorem dL_mend_15 : decode cL_mend 15 = .ok (.astore_n 3, 1) := by decide +kernel
theorem dL_mend_16 : decode cL_mend 16 = .ok (.iconst 2, 1) := by decide +kernel
theorem dL_mend_17 : decode cL_mend 17 = .ok (.ireturn, 1) := by decide +kernel
theorem dL_mend_18 : decode cL_mend 18 = .ok (.iconst 0, 1) := by decide +kernel
theorem dL_mend_19 : decode cL_mend 19 = .ok (.ireturn, 1) := by decide +kernel
set_option maxRecDepth 20000 in
theorem ggL_average_X6_average : GoodIn wsL_average wsX6_average := goodIn_ca (goodIn_r _ [6, 7, 8, 9, 5, 10, 11, 12, 13, 14, 15, 16, 17, 18, 19, 20, 21, 22, 23, 24, 25, 26, 27, 28, 29, 30, 31, 32, 33, 34, 35, 36, 37] (by decide +kernel) (by decide +kernel)) (goodIn_sub (fun _ h => List.mem_cons_of_mem _ (List.mem_append_right _ h)) (by decide +kernel))
set_option maxRecDepth 20000 in
theorem gL_average_X6_average : GoodIn wsL_average (wsV RL 81 RX6 yX6_average wsX6_average) := goodIn_app (goodIn_of _ (by decide +kernel)) ggL_average_X6_average
theorem dL_average_0 : decode cL_average 0 = .ok (.aload_n 2, 1) := by decide +kernel
theorem dL_average_1 : decode cL_average 1 = .ok (.iconst 0, 1) := by decide +kernel
theorem dL_average_2 : decode cL_average 2 = .ok (.aload_n 0, 1) := by decide +kernel
theorem dL_average_3 : decode cL_average 3 = .ok (.iload_n 1, 1) := by decide +kernel
theorem dL_average_4 : decode cL_average 4 = .ok (.invokevirtual 81, 3) := by decide +kernel
theorem dL_average_7 : decode cL_average 7 = .ok (.dastore, 1) := by decide +kernel
theorem dL_average_8 : decode cL_average 8 = .ok (.goto 6, 3) := by decide +kernel
theorem dL_average_11 : decode cL_average 11 = .ok (.astore_n 3, 1) := by decide +kernel
theorem dL_average_12 : decode cL_average 12 = .ok (.iconst 1, 1) := by decide +kernel
theorem dL_average_13 : decode cL_average 13 = .ok (.ireturn, 1) := by decide +kernel
theorem dL_average_14 : decode cL_average 14 = .ok (.iconst 0, 1) := by decide +kernel
theorem dL_average_15 : decode cL_average 15 = .ok (.ireturn, 1) := by decide +kernel
set_option maxRecDepth 20000 in
theorem ggL_rollBack_X6_rollBack : GoodIn wsL_rollBack wsX6_rollBack := goodIn_ca (goodIn_r _ [6, 7, 8, 9, 10, 11, 12, 13, 14, 15, 16, 17, 18, 19, 20, 21, 22, 23, 24, 25, 26, 27, 28, 29, 30, 31, 32, 33, 34, 35, 36, 37, 38, 39, 40, 41, 42, 43, 44, 45, 46, 47, 48] (by decide +kernel) (by decide +kernel)) (goodIn_sub (fun _ h => List.mem_cons_of_mem _ (List.mem_append_right _ h)) (by decide +kernel))
set_option maxRecDepth 20000 in
theorem gL_rollBack_X6_rollBack : GoodIn wsL_rollBack (wsV RL 85 RX6 yX6_rollBack wsX6_rollBack) := goodIn_app (goodIn_of _ (by decide +kernel)) ggL_rollBack_X6_rollBack
theorem dL_rollBack_0 : decode cL_rollBack 0 = .ok (.aload_n 1, 1) := by decide +kernel
theorem dL_rollBack_1 : decode cL_rollBack 1 = .ok (.iconst 0, 1) := by decide +kernel
theorem dL_rollBack_2 : decode cL_rollBack 2 = .ok (.aload_n 0, 1) := by decide +kernel
theorem dL_rollBack_3 : decode cL_rollBack 3 = .ok (.invokevirtual 85, 3) := by decide +kernel
theorem dL_rollBack_6 : decode cL_rollBack 6 = .ok (.i2l, 1) := by decide +kernel
theorem dL_rollBack_7 : decode cL_rollBack 7 = .ok (.lastore, 1) := by decide +kernel
theorem dL_rollBack_8 : decode cL_rollBack 8 = .ok (.goto 6, 3) := by decide +kernel
theorem dL_rollBack_11 : decode cL_rollBack 11 = .ok (.astore_n 2, 1) := by decide +kernel
theorem dL_rollBack_12 : decode cL_rollBack 12 = .ok (.iconst 1, 1) := by decide +kernel
theorem dL_rollBack_13 : decode cL_rollBack 13 = .ok (.ireturn, 1) := by decide +kernel
theorem dL_rollBack_14 : decode cL_rollBack 14 = .ok (.iconst 0, 1) := by decide +kernel
theorem dL_rollBack_15 : decode cL_rollBack 15 = .ok (.ireturn, 1) := by decide +kernel
set_option maxRecDepth 20000 in
theorem ggL_law_X6_init : GoodIn wsL_law wsX6_init := goodIn_r _ [10, 11, 12, 13, 14, 15, 16, 17, 18, 19, 20, 21, 22, 23, 24, 25, 26, 27, 28, 29, 30, 31, 32, 33, 34, 35, 36, 37, 38, 39, 40, 41, 6, 42, 43, 44, 45, 46, 47, 48, 49, 50, 51, 52, 53, 54, 55, 56, 57, 58, 59, 60, 61, 62, 63, 64, 65, 66, 67, 68, 69, 70, 71, 72, 73, 74, 75, 76, 77, 78, 79, 777, 778, 779, 780, 781, 782, 783, 804, 805, 806, 807, 808, 809, 810, 811, 812, 813, 814, 815, 816, 817, 818, 819, 820, 821, 822, 823, 824, 825] (by decide +kernel) (by decide +kernel)
set_option maxRecDepth 20000 in
theorem gL_law_X6_init : GoodIn wsL_law (wsX6_init) := ggL_law_X6_init
set_option maxRecDepth 20000 in
theorem ggL_law_X7_init : GoodIn wsL_law wsX7_init := goodIn_r _ [82, 83, 12, 13, 40, 84, 85, 86, 87, 88, 6, 89, 90, 91, 92, 93, 94, 95, 96, 97, 98, 784, 785, 786, 787, 788, 789, 790, 791, 792, 793, 794, 795, 796, 797, 798, 799, 800, 801, 802, 803] (by decide +kernel) (by decide +kernel)
set_option maxRecDepth 20000 in
theorem gL_law_X7_init : GoodIn wsL_law (wsX7_init) := ggL_law_X7_init
set_option maxRecDepth 20000 in
theorem ggL_law_L_addSentence : GoodIn wsL_law wsL_addSentence := goodIn_ca (goodIn_r _ [102, 103, 104, 105, 106, 2, 107, 108, 109, 16, 15, 14, 110, 111, 112, 113, 114, 115, 12, 13, 40, 116, 117, 118, 119, 120, 121, 122, 123, 124, 777, 778, 779, 780, 781, 782, 783, 826, 827, 828, 829] (by decide +kernel) (by decide +kernel)) (goodIn_sub (fun _ h => List.mem_append_left _ (List.mem_append_left _ (List.mem_append_right _ h))) (by decide +kernel))
set_option maxRecDepth 20000 in
theorem gL_law_L_addSentence : GoodIn wsL_law (va_wsS RL 92 yL_addSentence wsL_addSentence) := goodIn_app (goodIn_of _ (by decide +kernel)) ggL_law_L_addSentence
set_option maxRecDepth 20000 in
theorem ggL_law_X7_addSentence : GoodIn wsL_law wsX7_addSentence := goodIn_r _ [128, 129, 130, 131, 132, 5, 133, 134, 784, 785, 786, 787, 788, 789, 790, 791, 792, 793, 794, 795, 796, 797, 798, 799, 800, 801, 802, 803] (by decide +kernel) (by decide +kernel)
set_option maxRecDepth 20000 in
theorem gL_law_X7_addSentence : GoodIn wsL_law (wsV RL 97 RX7 yX7_addSentence wsX7_addSentence) := goodIn_app (goodIn_of _ (by decide +kernel)) ggL_law_X7_addSentence
set_option maxRecDepth 20000 in
theorem ggL_law_X7_thrown : GoodIn wsL_law wsX7_thrown := goodIn_r _ [138, 134, 784, 785, 786, 787, 788, 789, 790, 791, 792, 793, 794, 795, 796, 797, 798, 799, 800, 801, 802, 803] (by decide +kernel) (by decide +kernel)
set_option maxRecDepth 20000 in
theorem gL_law_X7_thrown : GoodIn wsL_law (wsV RL 98 RX7 yX7_thrown wsX7_thrown) := goodIn_app (goodIn_of _ (by decide +kernel)) ggL_law_X7_thrown
set_option maxRecDepth 20000 in
theorem ggL_law_L_addWord : GoodIn wsL_law wsL_addWord := goodIn_ca (goodIn_ca (goodIn_ca (goodIn_r _ [141, 142, 143, 103, 144, 145, 146, 2, 147, 148, 149, 108, 109, 150, 151, 152, 153, 154, 155, 15, 156, 157, 158, 111, 159, 120, 160, 161, 162, 163, 116, 777, 778, 779, 780, 781, 782, 783, 826, 827, 828, 829] (by decide +kernel) (by decide +kernel)) (goodIn_sub (fun _ h => List.mem_append_left _ (List.mem_append_right _ h)) (by decide +kernel))) (goodIn_sub (fun _ h => List.mem_append_left _ (List.mem_append_left _ (List.mem_append_right _ h))) (by decide +kernel))) (goodIn_sub (fun _ h => List.mem_append_right _ h) (by decide +kernel))
set_option maxRecDepth 20000 in
theorem gL_law_L_addWord : GoodIn wsL_law (va_wsS RL 101 yL_addWord wsL_addWord) := goodIn_app (goodIn_of _ (by decide +kernel)) ggL_law_L_addWord
set_option maxRecDepth 20000 in
theorem ggL_law_X7_addWord : GoodIn wsL_law wsX7_addWord := goodIn_r _ [167, 84, 85, 87, 168, 169, 170, 5, 171, 129, 130, 131, 132, 133, 134, 172, 173, 174, 175, 176, 177, 178, 179, 93, 97, 784, 785, 786, 787, 788, 789, 790, 791, 792, 793, 794, 795, 796, 797, 798, 799, 800, 801, 802, 803] (by decide +kernel) (by decide +kernel)
set_option maxRecDepth 20000 in
theorem gL_law_X7_addWord : GoodIn wsL_law (wsV RL 104 RX7 yX7_addWord wsX7_addWord) := goodIn_app (goodIn_of _ (by decide +kernel)) ggL_law_X7_addWord
set_option maxRecDepth 20000 in
theorem ggL_law_X6_sentences : GoodIn wsL_law wsX6_sentences := goodIn_r _ [183, 16, 777, 778, 779, 780, 781, 782, 783] (by decide +kernel) (by decide +kernel)
set_option maxRecDepth 20000 in
theorem gL_law_X6_sentences : GoodIn wsL_law (wsV RL 105 RX6 yX6_sentences wsX6_sentences) := goodIn_app (goodIn_of _ (by decide +kernel)) ggL_law_X6_sentences
set_option maxRecDepth 20000 in
theorem ggL_law_X7_sentences : GoodIn wsL_law wsX7_sentences := goodIn_r _ [187, 134, 129, 784, 785, 786, 787, 788, 789, 790, 791, 792, 793, 794, 795, 796, 797, 798, 799, 800, 801, 802, 803] (by decide +kernel) (by decide +kernel)
set_option maxRecDepth 20000 in
theorem gL_law_X7_sentences : GoodIn wsL_law (wsV RL 108 RX7 yX7_sentences wsX7_sentences) := goodIn_app (goodIn_of _ (by decide +kernel)) ggL_law_X7_sentences
set_option maxRecDepth 20000 in
theorem ggL_law_L_words : GoodIn wsL_law wsL_words := goodIn_ca (goodIn_r _ [190, 142, 191, 192, 193, 2, 194, 150, 151, 152, 153, 154, 155, 15, 156, 157, 158, 111, 159, 120, 777, 778, 779, 780, 781, 782, 783, 826, 827, 828, 829] (by decide +kernel) (by decide +kernel)) (goodIn_sub (fun _ h => List.mem_append_right _ h) (by decide +kernel))
set_option maxRecDepth 20000 in
theorem gL_law_L_words : GoodIn wsL_law (va_wsS RL 109 yL_words wsL_words) := goodIn_app (goodIn_of _ (by decide +kernel)) ggL_law_L_words
set_option maxRecDepth 20000 in
theorem ggL_law_X7_words : GoodIn wsL_law wsX7_words := goodIn_r _ [198, 84, 168, 169, 170, 5, 171, 129, 130, 131, 132, 133, 134, 784, 785, 786, 787, 788, 789, 790, 791, 792, 793, 794, 795, 796, 797, 798, 799, 800, 801, 802, 803] (by decide +kernel) (by decide +kernel)
set_option maxRecDepth 20000 in
theorem gL_law_X7_words : GoodIn wsL_law (wsV RL 112 RX7 yX7_words wsX7_words) := goodIn_app (goodIn_of _ (by decide +kernel)) ggL_law_X7_words
set_option maxRecDepth 20000 in
theorem ggL_law_L_kind : GoodIn wsL_law wsL_kind := goodIn_ca (goodIn_r _ [201, 142, 202, 203, 204, 2, 205, 150, 151, 152, 153, 154, 155, 15, 206, 207, 208, 156, 157, 158, 111, 159, 120, 209, 210, 211, 212, 116, 213, 214, 777, 778, 779, 780, 781, 782, 783, 826, 827, 828, 829] (by decide +kernel) (by decide +kernel)) (goodIn_sub (fun _ h => List.mem_append_right _ h) (by decide +kernel))
set_option maxRecDepth 20000 in
theorem gL_law_L_kind : GoodIn wsL_law (va_wsS RL 113 yL_kind wsL_kind) := goodIn_app (goodIn_of _ (by decide +kernel)) ggL_law_L_kind
set_option maxRecDepth 20000 in
theorem ggL_law_X7_kind : GoodIn wsL_law wsX7_kind := goodIn_r _ [218, 85, 219, 220, 221, 5, 222, 84, 168, 169, 170, 171, 129, 130, 131, 132, 133, 134, 784, 785, 786, 787, 788, 789, 790, 791, 792, 793, 794, 795, 796, 797, 798, 799, 800, 801, 802, 803] (by decide +kernel) (by decide +kernel)
set_option maxRecDepth 20000 in
theorem gL_law_X7_kind : GoodIn wsL_law (wsV RL 115 RX7 yX7_kind wsX7_kind) := goodIn_app (goodIn_of _ (by decide +kernel)) ggL_law_X7_kind
set_option maxRecDepth 20000 in
theorem ggL_law_L_setWeight : GoodIn wsL_law wsL_setWeight := goodIn_ca (goodIn_ca (goodIn_r _ [225, 142, 143, 226, 227, 228, 2, 229, 148, 149, 20, 230, 231, 232, 154, 155, 233, 234, 235, 19, 236, 41, 237, 238, 239, 240, 241, 242, 243, 50, 45, 244, 245, 246, 247, 42, 47, 48, 43, 49, 248, 249, 250, 251, 252, 253, 254, 255, 256, 257, 258, 777, 778, 779, 780, 781, 782, 783, 804, 805, 806, 807, 808, 809, 810, 811] (by decide +kernel) (by decide +kernel)) (goodIn_sub (fun _ h => List.mem_append_left _ (List.mem_append_right _ h)) (by decide +kernel))) (goodIn_sub (fun _ h => List.mem_append_right _ h) (by decide +kernel))
set_option maxRecDepth 20000 in
theorem gL_law_L_setWeight : GoodIn wsL_law (va_wsS RL 116 yL_setWeight wsL_setWeight) := goodIn_app (goodIn_of _ (by decide +kernel)) ggL_law_L_setWeight
set_option maxRecDepth 20000 in
theorem ggL_law_X7_setWeight : GoodIn wsL_law wsX7_setWeight := goodIn_r _ [262, 88, 130, 131, 132, 5, 133, 134, 172, 173, 174, 175, 263, 264, 265, 266, 267, 268, 90, 91, 176, 177, 178, 179, 93, 97, 784, 785, 786, 787, 788, 789, 790, 791, 792, 793, 794, 795, 796, 797, 798, 799, 800, 801, 802, 803] (by decide +kernel) (by decide +kernel)
set_option maxRecDepth 20000 in
theorem gL_law_X7_setWeight : GoodIn wsL_law (wsV RL 118 RX7 yX7_setWeight wsX7_setWeight) := goodIn_app (goodIn_of _ (by decide +kernel)) ggL_law_X7_setWeight
set_option maxRecDepth 20000 in
theorem ggL_law_L_weight : GoodIn wsL_law wsL_weight := goodIn_ca (goodIn_r _ [271, 142, 272, 273, 274, 2, 275, 20, 230, 231, 232, 154, 155, 233, 234, 235, 19, 236, 41, 237, 238, 239, 777, 778, 779, 780, 781, 782, 783, 804, 805, 806, 807, 808, 809, 810, 811] (by decide +kernel) (by decide +kernel)) (goodIn_sub (fun _ h => List.mem_append_right _ h) (by decide +kernel))
set_option maxRecDepth 20000 in
theorem gL_law_L_weight : GoodIn wsL_law (va_wsS RL 119 yL_weight wsL_weight) := goodIn_app (goodIn_of _ (by decide +kernel)) ggL_law_L_weight
set_option maxRecDepth 20000 in
theorem ggL_law_X7_weight : GoodIn wsL_law wsX7_weight := goodIn_r _ [279, 88, 130, 131, 132, 5, 133, 134, 784, 785, 786, 787, 788, 789, 790, 791, 792, 793, 794, 795, 796, 797, 798, 799, 800, 801, 802, 803] (by decide +kernel) (by decide +kernel)
set_option maxRecDepth 20000 in
theorem gL_law_X7_weight : GoodIn wsL_law (wsV RL 121 RX7 yX7_weight wsX7_weight) := goodIn_app (goodIn_of _ (by decide +kernel)) ggL_law_X7_weight
set_option maxRecDepth 20000 in
theorem ggL_law_L_feature : GoodIn wsL_law wsL_feature := goodIn_ca (goodIn_ca (goodIn_r _ [282, 142, 143, 283, 284, 285, 2, 286, 150, 151, 152, 153, 154, 155, 15, 287, 288, 289, 148, 149, 156, 157, 158, 111, 159, 120, 206, 207, 208, 290, 291, 292, 293, 294, 250, 295, 296, 249, 251, 297, 298, 299, 300, 301, 210, 211, 212, 116, 213, 214, 777, 778, 779, 780, 781, 782, 783, 826, 827, 828, 829] (by decide +kernel) (by decide +kernel)) (goodIn_sub (fun _ h => List.mem_append_right _ h) (by decide +kernel))) (goodIn_sub (fun _ h => List.mem_append_left _ (List.mem_append_right _ h)) (by decide +kernel))
set_option maxRecDepth 20000 in
theorem gL_law_L_feature : GoodIn wsL_law (va_wsS RL 122 yL_feature wsL_feature) := goodIn_app (goodIn_of _ (by decide +kernel)) ggL_law_L_feature
set_option maxRecDepth 20000 in
theorem ggL_law_X7_feature : GoodIn wsL_law wsX7_feature := goodIn_r _ [305, 306, 307, 308, 5, 309, 134, 310, 311, 312, 313, 84, 168, 169, 170, 171, 129, 219, 220, 221, 222, 314, 315, 316, 317, 318, 319, 320, 85, 784, 785, 786, 787, 788, 789, 790, 791, 792, 793, 794, 795, 796, 797, 798, 799, 800, 801, 802, 803] (by decide +kernel) (by decide +kernel)
set_option maxRecDepth 20000 in
theorem gL_law_X7_feature : GoodIn wsL_law (wsV RL 125 RX7 yX7_feature wsX7_feature) := goodIn_app (goodIn_of _ (by decide +kernel)) ggL_law_X7_feature
set_option maxRecDepth 20000 in
theorem ggL_law_L_score : GoodIn wsL_law wsL_score := goodIn_ca (goodIn_ca (goodIn_r _ [323, 142, 143, 324, 325, 326, 2, 327, 20, 150, 151, 152, 153, 154, 155, 15, 287, 288, 289, 148, 149, 156, 157, 158, 111, 159, 120, 206, 207, 208, 328, 329, 330, 19, 331, 332, 298, 299, 300, 301, 210, 211, 212, 116, 213, 214, 333, 234, 235, 236, 41, 237, 238, 239, 291, 292, 293, 294, 250, 295, 296, 249, 251, 777, 778, 779, 780, 781, 782, 783, 826, 827, 828, 829, 804, 805, 806, 807, 808, 809, 810, 811] (by decide +kernel) (by decide +kernel)) (goodIn_sub (fun _ h => List.mem_append_right _ h) (by decide +kernel))) (goodIn_sub (fun _ h => List.mem_append_left _ (List.mem_append_right _ h)) (by decide +kernel))
set_option maxRecDepth 20000 in
theorem gL_law_L_score : GoodIn wsL_law (va_wsS RL 126 yL_score wsL_score) := goodIn_app (goodIn_of _ (by decide +kernel)) ggL_law_L_score
set_option maxRecDepth 20000 in
theorem ggL_law_X7_score : GoodIn wsL_law wsX7_score := goodIn_r _ [337, 306, 307, 308, 5, 309, 134, 310, 311, 312, 313, 84, 168, 169, 170, 171, 129, 219, 220, 221, 222, 338, 339, 340, 341, 88, 317, 318, 319, 320, 85, 314, 315, 316, 784, 785, 786, 787, 788, 789, 790, 791, 792, 793, 794, 795, 796, 797, 798, 799, 800, 801, 802, 803] (by decide +kernel) (by decide +kernel)
set_option maxRecDepth 20000 in
theorem gL_law_X7_score : GoodIn wsL_law (wsV RL 129 RX7 yX7_score wsX7_score) := goodIn_app (goodIn_of _ (by decide +kernel)) ggL_law_X7_score
set_option maxRecDepth 20000 in
theorem ggL_law_L_mark : GoodIn wsL_law wsL_mark := goodIn_ca (goodIn_ca (goodIn_ca (goodIn_r _ [344, 142, 143, 103, 345, 346, 347, 2, 348, 148, 149, 108, 109, 150, 151, 152, 153, 154, 155, 15, 287, 288, 289, 156, 157, 158, 111, 159, 120, 206, 207, 208, 349, 350, 351, 352, 353, 354, 355, 356, 119, 213, 214, 357, 358, 359, 360, 777, 778, 779, 780, 781, 782, 783, 826, 827, 828, 829] (by decide +kernel) (by decide +kernel)) (goodIn_sub (fun _ h => List.mem_append_left _ (List.mem_append_right _ h)) (by decide +kernel))) (goodIn_sub (fun _ h => List.mem_append_left _ (List.mem_append_left _ (List.mem_append_right _ h))) (by decide +kernel))) (goodIn_sub (fun _ h => List.mem_append_right _ h) (by decide +kernel))
set_option maxRecDepth 20000 in
theorem gL_law_L_mark : GoodIn wsL_law (va_wsS RL 130 yL_mark wsL_mark) := goodIn_app (goodIn_of _ (by decide +kernel)) ggL_law_L_mark
set_option maxRecDepth 20000 in
theorem ggL_law_X7_mark : GoodIn wsL_law wsX7_mark := goodIn_r _ [364, 86, 306, 307, 308, 5, 309, 134, 310, 311, 312, 313, 84, 168, 169, 170, 171, 129, 219, 220, 221, 222, 172, 173, 174, 175, 365, 366, 367, 368, 176, 177, 178, 179, 93, 97, 784, 785, 786, 787, 788, 789, 790, 791, 792, 793, 794, 795, 796, 797, 798, 799, 800, 801, 802, 803] (by decide +kernel) (by decide +kernel)
set_option maxRecDepth 20000 in
theorem gL_law_X7_mark : GoodIn wsL_law (wsV RL 133 RX7 yX7_mark wsX7_mark) := goodIn_app (goodIn_of _ (by decide +kernel)) ggL_law_X7_mark
set_option maxRecDepth 20000 in
theorem ggL_law_L_trees : GoodIn wsL_law wsL_trees := goodIn_ca (goodIn_r _ [371, 142, 372, 373, 374, 2, 375, 150, 151, 152, 153, 154, 155, 15, 376, 377, 378, 379, 24, 20, 36, 380, 381, 382, 23, 383, 384, 249, 250, 251, 56, 55, 385, 386, 387, 157, 158, 111, 159, 120, 388, 389, 390, 391, 353, 354, 355, 356, 119, 213, 214, 392, 350, 351, 352, 393, 329, 330, 19, 331, 332, 298, 299, 300, 301, 210, 211, 212, 116, 333, 234, 235, 236, 41, 237, 238, 239, 291, 292, 293, 294, 295, 296, 394, 395, 396, 35, 397, 79, 398, 399, 400, 401, 78, 402, 403, 404, 405, 406, 407, 408, 409, 77, 410, 411, 412, 413, 414, 415, 416, 417, 418, 419, 420, 421, 422, 423, 424, 425, 426, 427, 428, 429, 430, 777, 778, 779, 780, 781, 782, 783, 812, 813, 826, 827, 828, 829, 804, 805, 806, 807, 808, 809, 810, 811, 823, 824, 825] (by decide +kernel) (by decide +kernel)) (goodIn_sub (fun _ h => List.mem_append_right _ h) (by decide +kernel))
set_option maxRecDepth 20000 in
theorem gL_law_L_trees : GoodIn wsL_law (va_wsS RL 134 yL_trees wsL_trees) := goodIn_app (goodIn_of _ (by decide +kernel)) ggL_law_L_trees
set_option maxRecDepth 20000 in
theorem ggL_law_X7_trees : GoodIn wsL_law wsX7_trees := goodIn_r _ [434, 95, 168, 169, 170, 5, 171, 129, 130, 131, 132, 133, 134, 435, 436, 437, 438, 97, 93, 439, 440, 441, 442, 84, 443, 444, 98, 92, 94, 445, 446, 447, 448, 449, 338, 339, 340, 341, 88, 317, 318, 319, 320, 85, 314, 315, 316, 450, 451, 452, 453, 86, 365, 366, 367, 368, 454, 455, 456, 457, 458, 459, 460, 461, 462, 463, 784, 785, 786, 787, 788, 789, 790, 791, 792, 793, 794, 795, 796, 797, 798, 799, 800, 801, 802, 803] (by decide +kernel) (by decide +kernel)
set_option maxRecDepth 20000 in
theorem gL_law_X7_trees : GoodIn wsL_law (wsV RL 137 RX7 yX7_trees wsX7_trees) := goodIn_app (goodIn_of _ (by decide +kernel)) ggL_law_X7_trees
set_option maxRecDepth 20000 in
theorem ggL_law_L_best : GoodIn wsL_law wsL_best := goodIn_ca (goodIn_ca (goodIn_r _ [466, 142, 103, 467, 468, 469, 2, 470, 150, 151, 152, 153, 154, 155, 15, 471, 472, 473, 474, 24, 20, 32, 28, 380, 381, 382, 23, 383, 384, 249, 250, 251, 56, 55, 385, 386, 387, 157, 158, 111, 159, 120, 388, 389, 390, 391, 353, 354, 355, 356, 119, 213, 214, 392, 350, 351, 352, 393, 329, 330, 19, 331, 332, 298, 299, 300, 301, 210, 211, 212, 116, 333, 234, 235, 236, 41, 237, 238, 239, 291, 292, 293, 294, 295, 296, 475, 476, 477, 31, 478, 479, 73, 69, 480, 481, 403, 404, 405, 482, 411, 412, 413, 483, 484, 485, 486, 71, 487, 488, 489, 490, 491, 492, 493, 494, 495, 496, 497, 498, 499, 500, 501, 502, 70, 72, 503, 504, 505, 506, 507, 122, 123, 124, 508, 509, 510, 511, 512, 513, 514, 515, 516, 517, 27, 518, 519, 61, 62, 520, 521, 522, 523, 524, 525, 526, 527, 528, 63, 64, 529, 530, 531, 532, 533, 534, 535, 536, 537, 538, 539, 108, 109, 540, 541, 542, 543, 544, 545, 546, 547, 548, 549, 550, 551, 777, 778, 779, 780, 781, 782, 783, 812, 813, 826, 827, 828, 829, 804, 805, 806, 807, 808, 809, 810, 811, 818, 819, 820, 821, 822, 814, 815, 816, 817] (by decide +kernel) (by decide +kernel)) (goodIn_sub (fun _ h => List.mem_append_right _ h) (by decide +kernel))) (goodIn_sub (fun _ h => List.mem_append_left _ (List.mem_append_left _ (List.mem_append_right _ h))) (by decide +kernel))
set_option maxRecDepth 20000 in
theorem gL_law_L_best : GoodIn wsL_law (va_wsS RL 138 yL_best wsL_best) := goodIn_app (goodIn_of _ (by decide +kernel)) ggL_law_L_best
set_option maxRecDepth 20000 in
theorem ggL_law_X7_best : GoodIn wsL_law wsX7_best := goodIn_r _ [555, 94, 556, 557, 558, 5, 559, 95, 134, 168, 169, 170, 171, 129, 130, 131, 132, 133, 435, 436, 437, 438, 97, 93, 439, 440, 441, 442, 84, 443, 444, 98, 92, 445, 446, 447, 448, 449, 338, 339, 340, 341, 88, 317, 318, 319, 320, 85, 314, 315, 316, 450, 451, 452, 453, 86, 365, 366, 367, 368, 454, 455, 456, 457, 458, 459, 460, 461, 462, 463, 560, 561, 562, 563, 784, 785, 786, 787, 788, 789, 790, 791, 792, 793, 794, 795, 796, 797, 798, 799, 800, 801, 802, 803] (by decide +kernel) (by decide +kernel)
set_option maxRecDepth 20000 in
theorem gL_law_X7_best : GoodIn wsL_law (wsV RL 140 RX7 yX7_best wsX7_best) := goodIn_app (goodIn_of _ (by decide +kernel)) ggL_law_X7_best
set_option maxRecDepth 20000 in
theorem ggL_law_L_bestByTrying : GoodIn wsL_law wsL_bestByTrying := goodIn_ca (goodIn_ca (goodIn_r _ [566, 142, 103, 567, 568, 569, 2, 570, 150, 151, 152, 153, 154, 155, 15, 376, 377, 378, 379, 24, 20, 36, 380, 381, 382, 23, 383, 384, 249, 250, 251, 56, 55, 385, 386, 387, 157, 158, 111, 159, 120, 388, 389, 390, 391, 353, 354, 355, 356, 119, 213, 214, 392, 350, 351, 352, 393, 329, 330, 19, 331, 332, 298, 299, 300, 301, 210, 211, 212, 116, 333, 234, 235, 236, 41, 237, 238, 239, 291, 292, 293, 294, 295, 296, 394, 395, 396, 35, 397, 79, 398, 399, 400, 401, 78, 402, 403, 404, 405, 406, 407, 408, 409, 77, 410, 411, 412, 413, 414, 415, 416, 417, 418, 419, 420, 421, 422, 423, 424, 425, 426, 571, 572, 573, 574, 575, 527, 528, 537, 538, 539, 108, 109, 540, 541, 542, 543, 544, 545, 546, 547, 548, 549, 550, 551, 777, 778, 779, 780, 781, 782, 783, 812, 813, 826, 827, 828, 829, 804, 805, 806, 807, 808, 809, 810, 811, 823, 824, 825] (by decide +kernel) (by decide +kernel)) (goodIn_sub (fun _ h => List.mem_append_right _ h) (by decide +kernel))) (goodIn_sub (fun _ h => List.mem_append_left _ (List.mem_append_left _ (List.mem_append_right _ h))) (by decide +kernel))
set_option maxRecDepth 20000 in
theorem gL_law_L_bestByTrying : GoodIn wsL_law (va_wsS RL 141 yL_bestByTrying wsL_bestByTrying) := goodIn_app (goodIn_of _ (by decide +kernel)) ggL_law_L_bestByTrying
set_option maxRecDepth 20000 in
theorem ggL_law_X7_bestByTrying : GoodIn wsL_law wsX7_bestByTrying := goodIn_r _ [579, 94, 556, 557, 558, 5, 559, 95, 134, 168, 169, 170, 171, 129, 130, 131, 132, 133, 435, 436, 437, 438, 97, 93, 439, 440, 441, 442, 84, 443, 444, 98, 92, 445, 446, 447, 448, 449, 338, 339, 340, 341, 88, 317, 318, 319, 320, 85, 314, 315, 316, 450, 451, 452, 453, 86, 365, 366, 367, 368, 454, 455, 456, 457, 458, 459, 460, 461, 462, 463, 560, 561, 562, 563, 784, 785, 786, 787, 788, 789, 790, 791, 792, 793, 794, 795, 796, 797, 798, 799, 800, 801, 802, 803] (by decide +kernel) (by decide +kernel)
set_option maxRecDepth 20000 in
theorem gL_law_X7_bestByTrying : GoodIn wsL_law (wsV RL 143 RX7 yX7_bestByTrying wsX7_bestByTrying) := goodIn_app (goodIn_of _ (by decide +kernel)) ggL_law_X7_bestByTrying
set_option maxRecDepth 20000 in
theorem ggL_law_L_head : GoodIn wsL_law wsL_head := goodIn_ca (goodIn_ca (goodIn_r _ [582, 142, 103, 583, 584, 585, 2, 586, 150, 151, 152, 153, 154, 155, 15, 206, 207, 208, 156, 157, 158, 111, 159, 120, 471, 472, 473, 474, 24, 20, 32, 28, 380, 381, 382, 23, 383, 384, 249, 250, 251, 56, 55, 385, 386, 387, 388, 389, 390, 391, 353, 354, 355, 356, 119, 213, 214, 392, 350, 351, 352, 393, 329, 330, 19, 331, 332, 298, 299, 300, 301, 210, 211, 212, 116, 333, 234, 235, 236, 41, 237, 238, 239, 291, 292, 293, 294, 295, 296, 475, 476, 477, 31, 478, 479, 73, 69, 480, 481, 403, 404, 405, 482, 411, 412, 413, 483, 484, 485, 486, 71, 487, 488, 489, 490, 491, 492, 493, 494, 495, 496, 497, 498, 499, 500, 501, 502, 70, 72, 503, 504, 505, 506, 507, 122, 123, 124, 508, 509, 510, 511, 512, 513, 514, 515, 516, 517, 27, 518, 519, 61, 62, 520, 521, 522, 523, 524, 525, 526, 527, 528, 63, 64, 529, 530, 531, 532, 533, 534, 535, 536, 537, 538, 539, 108, 109, 540, 587, 588, 589, 590, 545, 546, 547, 544, 548, 549, 550, 551, 777, 778, 779, 780, 781, 782, 783, 826, 827, 828, 829, 812, 813, 804, 805, 806, 807, 808, 809, 810, 811, 818, 819, 820, 821, 822, 814, 815, 816, 817] (by decide +kernel) (by decide +kernel)) (goodIn_sub (fun _ h => List.mem_append_right _ h) (by decide +kernel))) (goodIn_sub (fun _ h => List.mem_append_left _ (List.mem_append_left _ (List.mem_append_right _ h))) (by decide +kernel))
set_option maxRecDepth 20000 in
theorem gL_law_L_head : GoodIn wsL_law (va_wsS RL 144 yL_head wsL_head) := goodIn_app (goodIn_of _ (by decide +kernel)) ggL_law_L_head
set_option maxRecDepth 20000 in
theorem ggL_law_X7_head : GoodIn wsL_law wsX7_head := goodIn_r _ [594, 94, 219, 220, 221, 5, 222, 84, 168, 169, 170, 171, 129, 130, 131, 132, 133, 134, 556, 557, 558, 559, 95, 435, 436, 437, 438, 97, 93, 439, 440, 441, 442, 443, 444, 98, 92, 445, 446, 447, 448, 449, 338, 339, 340, 341, 88, 317, 318, 319, 320, 85, 314, 315, 316, 450, 451, 452, 453, 86, 365, 366, 367, 368, 454, 455, 456, 457, 458, 459, 460, 461, 462, 463, 595, 596, 597, 598, 599, 784, 785, 786, 787, 788, 789, 790, 791, 792, 793, 794, 795, 796, 797, 798, 799, 800, 801, 802, 803] (by decide +kernel) (by decide +kernel)
set_option maxRecDepth 20000 in
theorem gL_law_X7_head : GoodIn wsL_law (wsV RL 147 RX7 yX7_head wsX7_head) := goodIn_app (goodIn_of _ (by decide +kernel)) ggL_law_X7_head
set_option maxRecDepth 20000 in
theorem ggL_law_L_crossings : GoodIn wsL_law wsL_crossings := goodIn_ca (goodIn_ca (goodIn_r _ [602, 142, 103, 603, 604, 605, 2, 606, 150, 151, 152, 153, 154, 155, 15, 471, 472, 473, 474, 24, 20, 32, 28, 380, 381, 382, 23, 383, 384, 249, 250, 251, 56, 55, 385, 386, 387, 157, 158, 111, 159, 120, 388, 389, 390, 391, 353, 354, 355, 356, 119, 213, 214, 392, 350, 351, 352, 393, 329, 330, 19, 331, 332, 298, 299, 300, 301, 210, 211, 212, 116, 333, 234, 235, 236, 41, 237, 238, 239, 291, 292, 293, 294, 295, 296, 475, 476, 477, 31, 478, 479, 73, 69, 480, 481, 403, 404, 405, 482, 411, 412, 413, 483, 484, 485, 486, 71, 487, 488, 489, 490, 491, 492, 493, 494, 495, 496, 497, 498, 499, 500, 501, 502, 70, 72, 503, 504, 505, 506, 507, 122, 123, 124, 508, 509, 510, 511, 512, 513, 514, 515, 516, 517, 27, 518, 519, 61, 62, 520, 521, 522, 523, 524, 525, 526, 527, 528, 63, 64, 529, 530, 531, 532, 533, 534, 535, 536, 537, 538, 539, 108, 109, 540, 156, 587, 588, 589, 590, 545, 546, 547, 544, 548, 549, 550, 551, 607, 422, 423, 424, 425, 426, 777, 778, 779, 780, 781, 782, 783, 812, 813, 826, 827, 828, 829, 804, 805, 806, 807, 808, 809, 810, 811, 818, 819, 820, 821, 822, 814, 815, 816, 817] (by decide +kernel) (by decide +kernel)) (goodIn_sub (fun _ h => List.mem_append_right _ h) (by decide +kernel))) (goodIn_sub (fun _ h => List.mem_append_left _ (List.mem_append_left _ (List.mem_append_right _ h))) (by decide +kernel))
set_option maxRecDepth 20000 in
theorem gL_law_L_crossings : GoodIn wsL_law (va_wsS RL 148 yL_crossings wsL_crossings) := goodIn_app (goodIn_of _ (by decide +kernel)) ggL_law_L_crossings
set_option maxRecDepth 20000 in
theorem ggL_law_X7_crossings : GoodIn wsL_law wsX7_crossings := goodIn_r _ [611, 94, 84, 98, 556, 557, 558, 5, 559, 95, 134, 168, 169, 170, 171, 129, 130, 131, 132, 133, 435, 436, 437, 438, 97, 93, 439, 440, 441, 442, 443, 444, 92, 445, 446, 447, 448, 449, 338, 339, 340, 341, 88, 317, 318, 319, 320, 85, 314, 315, 316, 450, 451, 452, 453, 86, 365, 366, 367, 368, 454, 455, 456, 457, 458, 459, 460, 461, 462, 463, 595, 596, 597, 598, 599, 784, 785, 786, 787, 788, 789, 790, 791, 792, 793, 794, 795, 796, 797, 798, 799, 800, 801, 802, 803] (by decide +kernel) (by decide +kernel)
set_option maxRecDepth 20000 in
theorem gL_law_X7_crossings : GoodIn wsL_law (wsV RL 150 RX7 yX7_crossings wsX7_crossings) := goodIn_app (goodIn_of _ (by decide +kernel)) ggL_law_X7_crossings
set_option maxRecDepth 20000 in
theorem ggL_law_L_ranked : GoodIn wsL_law wsL_ranked := goodIn_ca (goodIn_r _ [614, 142, 615, 616, 617, 2, 618, 150, 151, 152, 153, 154, 155, 15, 619, 620, 621, 622, 376, 377, 378, 379, 24, 20, 36, 380, 381, 382, 23, 383, 384, 249, 250, 251, 56, 55, 385, 386, 387, 157, 158, 111, 159, 120, 388, 389, 390, 391, 353, 354, 355, 356, 119, 213, 214, 392, 350, 351, 352, 393, 329, 330, 19, 331, 332, 298, 299, 300, 301, 210, 211, 212, 116, 333, 234, 235, 236, 41, 237, 238, 239, 291, 292, 293, 294, 295, 296, 394, 395, 396, 35, 397, 79, 398, 399, 400, 401, 78, 402, 403, 404, 405, 406, 407, 408, 409, 77, 410, 411, 412, 413, 414, 415, 416, 417, 418, 419, 420, 421, 422, 423, 424, 425, 426, 427, 428, 429, 430, 623, 624, 625, 626, 627, 628, 572, 573, 574, 575, 527, 528, 629, 630, 631, 632, 633, 634, 635, 636, 637, 638, 639, 541, 542, 543, 544, 545, 546, 547, 548, 549, 550, 551, 777, 778, 779, 780, 781, 782, 783, 812, 813, 826, 827, 828, 829, 804, 805, 806, 807, 808, 809, 810, 811, 823, 824, 825] (by decide +kernel) (by decide +kernel)) (goodIn_sub (fun _ h => List.mem_append_right _ h) (by decide +kernel))
set_option maxRecDepth 20000 in
theorem gL_law_L_ranked : GoodIn wsL_law (va_wsS RL 151 yL_ranked wsL_ranked) := goodIn_app (goodIn_of _ (by decide +kernel)) ggL_law_L_ranked
set_option maxRecDepth 20000 in
theorem ggL_law_X7_ranked : GoodIn wsL_law wsX7_ranked := goodIn_r _ [643, 92, 644, 645, 646, 5, 647, 95, 168, 169, 170, 171, 129, 435, 436, 437, 438, 97, 93, 439, 440, 441, 442, 84, 443, 444, 98, 94, 445, 446, 447, 448, 449, 338, 339, 340, 341, 88, 317, 318, 319, 320, 85, 314, 315, 316, 450, 451, 452, 453, 86, 365, 366, 367, 368, 454, 455, 456, 457, 458, 459, 460, 461, 462, 463, 648, 649, 650, 651, 652, 653, 654, 655, 130, 131, 132, 133, 134, 560, 561, 562, 563, 784, 785, 786, 787, 788, 789, 790, 791, 792, 793, 794, 795, 796, 797, 798, 799, 800, 801, 802, 803] (by decide +kernel) (by decide +kernel)
set_option maxRecDepth 20000 in
theorem gL_law_X7_ranked : GoodIn wsL_law (wsV RL 153 RX7 yX7_ranked wsX7_ranked) := goodIn_app (goodIn_of _ (by decide +kernel)) ggL_law_X7_ranked
set_option maxRecDepth 20000 in
theorem ggL_law_L_rankedHead : GoodIn wsL_law wsL_rankedHead := goodIn_ca (goodIn_r _ [658, 142, 659, 660, 661, 2, 662, 150, 151, 152, 153, 154, 155, 15, 206, 207, 208, 156, 157, 158, 111, 159, 120, 619, 620, 621, 622, 376, 377, 378, 379, 24, 20, 36, 380, 381, 382, 23, 383, 384, 249, 250, 251, 56, 55, 385, 386, 387, 388, 389, 390, 391, 353, 354, 355, 356, 119, 213, 214, 392, 350, 351, 352, 393, 329, 330, 19, 331, 332, 298, 299, 300, 301, 210, 211, 212, 116, 333, 234, 235, 236, 41, 237, 238, 239, 291, 292, 293, 294, 295, 296, 394, 395, 396, 35, 397, 79, 398, 399, 400, 401, 78, 402, 403, 404, 405, 406, 407, 408, 409, 77, 410, 411, 412, 413, 414, 415, 416, 417, 418, 419, 420, 421, 422, 423, 424, 425, 426, 427, 428, 429, 430, 623, 624, 625, 626, 627, 628, 572, 573, 574, 575, 527, 528, 629, 630, 631, 632, 633, 634, 635, 636, 637, 638, 639, 587, 588, 589, 590, 545, 546, 547, 544, 548, 549, 550, 551, 777, 778, 779, 780, 781, 782, 783, 826, 827, 828, 829, 812, 813, 804, 805, 806, 807, 808, 809, 810, 811, 823, 824, 825] (by decide +kernel) (by decide +kernel)) (goodIn_sub (fun _ h => List.mem_append_right _ h) (by decide +kernel))
set_option maxRecDepth 20000 in
theorem gL_law_L_rankedHead : GoodIn wsL_law (va_wsS RL 154 yL_rankedHead wsL_rankedHead) := goodIn_app (goodIn_of _ (by decide +kernel)) ggL_law_L_rankedHead
set_option maxRecDepth 20000 in
theorem ggL_law_X7_rankedHead : GoodIn wsL_law wsX7_rankedHead := goodIn_r _ [666, 92, 219, 220, 221, 5, 222, 84, 168, 169, 170, 171, 129, 644, 645, 646, 647, 95, 435, 436, 437, 438, 97, 93, 439, 440, 441, 442, 443, 444, 98, 94, 445, 446, 447, 448, 449, 338, 339, 340, 341, 88, 317, 318, 319, 320, 85, 314, 315, 316, 450, 451, 452, 453, 86, 365, 366, 367, 368, 454, 455, 456, 457, 458, 459, 460, 461, 462, 463, 648, 649, 650, 651, 652, 653, 654, 655, 130, 131, 132, 133, 134, 595, 596, 597, 598, 599, 784, 785, 786, 787, 788, 789, 790, 791, 792, 793, 794, 795, 796, 797, 798, 799, 800, 801, 802, 803] (by decide +kernel) (by decide +kernel)
set_option maxRecDepth 20000 in
theorem gL_law_X7_rankedHead : GoodIn wsL_law (wsV RL 157 RX7 yX7_rankedHead wsX7_rankedHead) := goodIn_app (goodIn_of _ (by decide +kernel)) ggL_law_X7_rankedHead
set_option maxRecDepth 20000 in
theorem ggL_law_L_correct : GoodIn wsL_law wsL_correct := goodIn_ca (goodIn_ca (goodIn_r _ [669, 142, 143, 670, 671, 672, 2, 673, 150, 151, 152, 153, 154, 155, 15, 287, 288, 289, 148, 149, 156, 157, 158, 111, 159, 120, 206, 207, 208, 674, 675, 676, 677, 117, 678, 679, 680, 681, 213, 214, 777, 778, 779, 780, 781, 782, 783, 826, 827, 828, 829] (by decide +kernel) (by decide +kernel)) (goodIn_sub (fun _ h => List.mem_append_right _ h) (by decide +kernel))) (goodIn_sub (fun _ h => List.mem_append_left _ (List.mem_append_right _ h)) (by decide +kernel))
set_option maxRecDepth 20000 in
theorem gL_law_L_correct : GoodIn wsL_law (va_wsS RL 158 yL_correct wsL_correct) := goodIn_app (goodIn_of _ (by decide +kernel)) ggL_law_L_correct
set_option maxRecDepth 20000 in
theorem ggL_law_X7_correct : GoodIn wsL_law wsX7_correct := goodIn_r _ [685, 87, 306, 307, 308, 5, 309, 134, 310, 311, 312, 313, 84, 168, 169, 170, 171, 129, 219, 220, 221, 222, 784, 785, 786, 787, 788, 789, 790, 791, 792, 793, 794, 795, 796, 797, 798, 799, 800, 801, 802, 803] (by decide +kernel) (by decide +kernel)
set_option maxRecDepth 20000 in
theorem gL_law_X7_correct : GoodIn wsL_law (wsV RL 160 RX7 yX7_correct wsX7_correct) := goodIn_app (goodIn_of _ (by decide +kernel)) ggL_law_X7_correct
set_option maxRecDepth 20000 in
theorem ggL_law_L_matched : GoodIn wsL_law wsL_matched := goodIn_ca (goodIn_ca (goodIn_r _ [688, 142, 103, 689, 690, 691, 2, 692, 150, 151, 152, 153, 154, 155, 15, 471, 472, 473, 474, 24, 20, 32, 28, 380, 381, 382, 23, 383, 384, 249, 250, 251, 56, 55, 385, 386, 387, 157, 158, 111, 159, 120, 388, 389, 390, 391, 353, 354, 355, 356, 119, 213, 214, 392, 350, 351, 352, 393, 329, 330, 19, 331, 332, 298, 299, 300, 301, 210, 211, 212, 116, 333, 234, 235, 236, 41, 237, 238, 239, 291, 292, 293, 294, 295, 296, 475, 476, 477, 31, 478, 479, 73, 69, 480, 481, 403, 404, 405, 482, 411, 412, 413, 483, 484, 485, 486, 71, 487, 488, 489, 490, 491, 492, 493, 494, 495, 496, 497, 498, 499, 500, 501, 502, 70, 72, 503, 504, 505, 506, 507, 122, 123, 124, 508, 509, 510, 511, 512, 513, 514, 515, 516, 517, 27, 518, 519, 61, 62, 520, 521, 522, 523, 524, 525, 526, 527, 528, 63, 64, 529, 530, 531, 532, 533, 534, 535, 536, 537, 538, 539, 108, 109, 540, 156, 693, 679, 680, 681, 117, 587, 588, 589, 590, 545, 546, 547, 544, 548, 549, 550, 551, 777, 778, 779, 780, 781, 782, 783, 812, 813, 826, 827, 828, 829, 804, 805, 806, 807, 808, 809, 810, 811, 818, 819, 820, 821, 822, 814, 815, 816, 817] (by decide +kernel) (by decide +kernel)) (goodIn_sub (fun _ h => List.mem_append_right _ h) (by decide +kernel))) (goodIn_sub (fun _ h => List.mem_append_left _ (List.mem_append_left _ (List.mem_append_right _ h))) (by decide +kernel))
set_option maxRecDepth 20000 in
theorem gL_law_L_matched : GoodIn wsL_law (va_wsS RL 161 yL_matched wsL_matched) := goodIn_app (goodIn_of _ (by decide +kernel)) ggL_law_L_matched
set_option maxRecDepth 20000 in
theorem ggL_law_X7_matched : GoodIn wsL_law wsX7_matched := goodIn_r _ [697, 94, 84, 87, 556, 557, 558, 5, 559, 95, 134, 168, 169, 170, 171, 129, 130, 131, 132, 133, 435, 436, 437, 438, 97, 93, 439, 440, 441, 442, 443, 444, 98, 92, 445, 446, 447, 448, 449, 338, 339, 340, 341, 88, 317, 318, 319, 320, 85, 314, 315, 316, 450, 451, 452, 453, 86, 365, 366, 367, 368, 454, 455, 456, 457, 458, 459, 460, 461, 462, 463, 595, 596, 597, 598, 599, 784, 785, 786, 787, 788, 789, 790, 791, 792, 793, 794, 795, 796, 797, 798, 799, 800, 801, 802, 803] (by decide +kernel) (by decide +kernel)
set_option maxRecDepth 20000 in
theorem gL_law_X7_matched : GoodIn wsL_law (wsV RL 163 RX7 yX7_matched wsX7_matched) := goodIn_app (goodIn_of _ (by decide +kernel)) ggL_law_X7_matched
set_option maxRecDepth 20000 in
theorem ggL_law_L_mend : GoodIn wsL_law wsL_mend := goodIn_ca (goodIn_ca (goodIn_r _ [700, 142, 103, 701, 702, 703, 2, 704, 108, 109, 20, 150, 151, 152, 153, 154, 155, 15, 705, 706, 707, 111, 708, 120, 678, 679, 680, 681, 117, 213, 214, 471, 472, 473, 474, 24, 32, 28, 380, 381, 382, 23, 383, 384, 249, 250, 251, 56, 55, 385, 386, 387, 157, 158, 159, 388, 389, 390, 391, 353, 354, 355, 356, 119, 392, 350, 351, 352, 393, 329, 330, 19, 331, 332, 298, 299, 300, 301, 210, 211, 212, 116, 333, 234, 235, 236, 41, 237, 238, 239, 291, 292, 293, 294, 295, 296, 475, 476, 477, 31, 478, 479, 73, 69, 480, 481, 403, 404, 405, 482, 411, 412, 413, 483, 484, 485, 486, 71, 487, 488, 489, 490, 491, 492, 493, 494, 495, 496, 497, 498, 499, 500, 501, 502, 70, 72, 503, 504, 505, 506, 507, 122, 123, 124, 508, 509, 510, 511, 512, 513, 514, 515, 516, 517, 27, 518, 519, 61, 62, 520, 521, 522, 523, 524, 525, 526, 527, 528, 63, 64, 529, 530, 531, 532, 533, 534, 535, 536, 537, 538, 539, 540, 240, 241, 242, 243, 50, 45, 244, 245, 246, 247, 42, 47, 48, 43, 49, 248, 252, 253, 254, 156, 693, 587, 588, 589, 590, 545, 546, 547, 544, 548, 549, 550, 551, 709, 710, 711, 712, 713, 256, 257, 258, 714, 715, 716, 717, 777, 778, 779, 780, 781, 782, 783, 826, 827, 828, 829, 812, 813, 804, 805, 806, 807, 808, 809, 810, 811, 818, 819, 820, 821, 822, 814, 815, 816, 817] (by decide +kernel) (by decide +kernel)) (goodIn_sub (fun _ h => List.mem_append_left _ (List.mem_append_left _ (List.mem_append_right _ h))) (by decide +kernel))) (goodIn_sub (fun _ h => List.mem_append_right _ h) (by decide +kernel))
set_option maxRecDepth 20000 in
theorem gL_law_L_mend : GoodIn wsL_law (va_wsS RL 164 yL_mend wsL_mend) := goodIn_app (goodIn_of _ (by decide +kernel)) ggL_law_L_mend
set_option maxRecDepth 20000 in
theorem ggL_law_X7_mend : GoodIn wsL_law wsX7_mend := goodIn_r _ [721, 95, 94, 84, 87, 722, 89, 88, 168, 169, 170, 5, 171, 129, 130, 131, 132, 133, 134, 723, 724, 725, 726, 435, 436, 437, 438, 97, 93, 439, 440, 441, 442, 443, 444, 98, 92, 445, 446, 447, 448, 449, 338, 339, 340, 341, 317, 318, 319, 320, 85, 314, 315, 316, 450, 451, 452, 453, 86, 365, 366, 367, 368, 454, 455, 456, 457, 458, 459, 460, 461, 462, 463, 172, 173, 174, 175, 263, 264, 265, 266, 267, 268, 90, 91, 595, 596, 597, 598, 599, 727, 728, 729, 730, 176, 177, 178, 179, 784, 785, 786, 787, 788, 789, 790, 791, 792, 793, 794, 795, 796, 797, 798, 799, 800, 801, 802, 803] (by decide +kernel) (by decide +kernel)
set_option maxRecDepth 20000 in
theorem gL_law_X7_mend : GoodIn wsL_law (wsV RL 166 RX7 yX7_mend wsX7_mend) := goodIn_app (goodIn_of _ (by decide +kernel)) ggL_law_X7_mend
set_option maxRecDepth 20000 in
theorem ggL_law_X6_steps : GoodIn wsL_law wsX6_steps := goodIn_r _ [734, 20, 735, 736, 737, 19, 738, 43, 777, 778, 779, 780, 781, 782, 783, 804, 805, 806, 807, 808, 809, 810, 811] (by decide +kernel) (by decide +kernel)
set_option maxRecDepth 20000 in
theorem gL_law_X6_steps : GoodIn wsL_law (wsV RL 167 RX6 yX6_steps wsX6_steps) := goodIn_app (goodIn_of _ (by decide +kernel)) ggL_law_X6_steps
set_option maxRecDepth 20000 in
theorem ggL_law_X7_steps : GoodIn wsL_law wsX7_steps := goodIn_r _ [742, 134, 722, 784, 785, 786, 787, 788, 789, 790, 791, 792, 793, 794, 795, 796, 797, 798, 799, 800, 801, 802, 803] (by decide +kernel) (by decide +kernel)
set_option maxRecDepth 20000 in
theorem gL_law_X7_steps : GoodIn wsL_law (wsV RL 170 RX7 yX7_steps wsX7_steps) := goodIn_app (goodIn_of _ (by decide +kernel)) ggL_law_X7_steps
set_option maxRecDepth 20000 in
theorem ggL_law_L_average : GoodIn wsL_law wsL_average := goodIn_ca (goodIn_r _ [745, 142, 746, 747, 748, 2, 749, 20, 230, 231, 232, 154, 155, 750, 751, 752, 19, 753, 43, 42, 237, 238, 239, 777, 778, 779, 780, 781, 782, 783, 804, 805, 806, 807, 808, 809, 810, 811] (by decide +kernel) (by decide +kernel)) (goodIn_sub (fun _ h => List.mem_append_right _ h) (by decide +kernel))
set_option maxRecDepth 20000 in
theorem gL_law_L_average : GoodIn wsL_law (va_wsS RL 171 yL_average wsL_average) := goodIn_app (goodIn_of _ (by decide +kernel)) ggL_law_L_average
set_option maxRecDepth 20000 in
theorem ggL_law_X7_average : GoodIn wsL_law wsX7_average := goodIn_r _ [757, 722, 89, 130, 131, 132, 5, 133, 134, 784, 785, 786, 787, 788, 789, 790, 791, 792, 793, 794, 795, 796, 797, 798, 799, 800, 801, 802, 803] (by decide +kernel) (by decide +kernel)
set_option maxRecDepth 20000 in
theorem gL_law_X7_average : GoodIn wsL_law (wsV RL 174 RX7 yX7_average wsX7_average) := goodIn_app (goodIn_of _ (by decide +kernel)) ggL_law_X7_average
set_option maxRecDepth 20000 in
theorem ggL_law_L_rollBack : GoodIn wsL_law wsL_rollBack := goodIn_ca (goodIn_r _ [760, 103, 761, 762, 763, 2, 764, 108, 109, 20, 765, 766, 767, 19, 768, 49, 769, 770, 771, 772, 50, 45, 41, 244, 245, 246, 247, 47, 42, 48, 43, 252, 253, 254, 777, 778, 779, 780, 781, 782, 783, 804, 805, 806, 807, 808, 809, 810, 811] (by decide +kernel) (by decide +kernel)) (goodIn_sub (fun _ h => List.mem_append_left _ (List.mem_append_left _ (List.mem_append_right _ h))) (by decide +kernel))
set_option maxRecDepth 20000 in
theorem gL_law_L_rollBack : GoodIn wsL_law (va_wsS RL 175 yL_rollBack wsL_rollBack) := goodIn_app (goodIn_of _ (by decide +kernel)) ggL_law_L_rollBack
set_option maxRecDepth 20000 in
theorem ggL_law_X7_rollBack : GoodIn wsL_law wsX7_rollBack := goodIn_r _ [776, 268, 267, 90, 89, 88, 91, 722, 130, 131, 132, 5, 133, 134, 176, 177, 178, 179, 93, 97, 784, 785, 786, 787, 788, 789, 790, 791, 792, 793, 794, 795, 796, 797, 798, 799, 800, 801, 802, 803] (by decide +kernel) (by decide +kernel)
set_option maxRecDepth 20000 in
theorem gL_law_X7_rollBack : GoodIn wsL_law (wsV RL 177 RX7 yX7_rollBack wsX7_rollBack) := goodIn_app (goodIn_of _ (by decide +kernel)) ggL_law_X7_rollBack
theorem dL_law_0 : decode cL_law 0 = .ok (.new 8, 3) := by decide +kernel
theorem dL_law_3 : decode cL_law 3 = .ok (.dup, 1) := by decide +kernel
theorem dL_law_4 : decode cL_law 4 = .ok (.invokespecial 88, 3) := by decide +kernel
theorem dL_law_7 : decode cL_law 7 = .ok (.astore_n 1, 1) := by decide +kernel
theorem dL_law_8 : decode cL_law 8 = .ok (.new 89, 3) := by decide +kernel
theorem dL_law_11 : decode cL_law 11 = .ok (.dup, 1) := by decide +kernel
theorem dL_law_12 : decode cL_law 12 = .ok (.invokespecial 91, 3) := by decide +kernel
theorem dL_law_15 : decode cL_law 15 = .ok (.astore_n 2, 1) := by decide +kernel
theorem dL_law_16 : decode cL_law 16 = .ok (.iconst 1, 1) := by decide +kernel
theorem dL_law_17 : decode cL_law 17 = .ok (.newarray .long, 2) := by decide +kernel
theorem dL_law_19 : decode cL_law 19 = .ok (.astore_n 3, 1) := by decide +kernel
theorem dL_law_20 : decode cL_law 20 = .ok (.iconst 1, 1) := by decide +kernel
theorem dL_law_21 : decode cL_law 21 = .ok (.newarray .double, 2) := by decide +kernel
theorem dL_law_23 : decode cL_law 23 = .ok (.astore 4, 2) := by decide +kernel
theorem dL_law_25 : decode cL_law 25 = .ok (.iconst 0, 1) := by decide +kernel
theorem dL_law_26 : decode cL_law 26 = .ok (.istore 5, 2) := by decide +kernel
theorem dL_law_28 : decode cL_law 28 = .ok (.iload 5, 2) := by decide +kernel
theorem dL_law_30 : decode cL_law 30 = .ok (.aload_n 0, 1) := by decide +kernel
theorem dL_law_31 : decode cL_law 31 = .ok (.arraylength, 1) := by decide +kernel
theorem dL_law_32 : decode cL_law 32 = .ok (.iconst 5, 1) := by decide +kernel
theorem dL_law_33 : decode cL_law 33 = .ok (.isub, 1) := by decide +kernel
theorem dL_law_34 : decode cL_law 34 = .ok (.if_icmp .gt 1711, 3) := by decide +kernel
theorem dL_law_37 : decode cL_law 37 = .ok (.aload_n 0, 1) := by decide +kernel
theorem dL_law_38 : decode cL_law 38 = .ok (.iload 5, 2) := by decide +kernel
theorem dL_law_40 : decode cL_law 40 = .ok (.iaload, 1) := by decide +kernel
theorem dL_law_41 : decode cL_law 41 = .ok (.bipush 31, 2) := by decide +kernel
theorem dL_law_43 : decode cL_law 43 = .ok (.iand, 1) := by decide +kernel
theorem dL_law_44 : decode cL_law 44 = .ok (.tableswitch 1695 0 22 #[108, 152, 220, 233, 289, 357, 425, 481, 589, 669, 761, 845, 929, 1013, 1109, 1165, 1261, 1369, 1449, 1505, 1561, 1574, 1651], 108) := by decide +kernel
theorem dL_law_152 : decode cL_law 152 = .ok (.aload_n 1, 1) := by decide +kernel
theorem dL_law_153 : decode cL_law 153 = .ok (.aload_n 3, 1) := by decide +kernel
theorem dL_law_154 : decode cL_law 154 = .ok (.invokestatic 92, 3) := by decide +kernel
theorem dL_law_157 : decode cL_law 157 = .ok (.istore 6, 2) := by decide +kernel
theorem dL_law_159 : decode cL_law 159 = .ok (.aload_n 2, 1) := by decide +kernel
theorem dL_law_160 : decode cL_law 160 = .ok (.invokevirtual 97, 3) := by decide +kernel
theorem dL_law_163 : decode cL_law 163 = .ok (.istore 7, 2) := by decide +kernel
theorem dL_law_165 : decode cL_law 165 = .ok (.aload_n 2, 1) := by decide +kernel
theorem dL_law_166 : decode cL_law 166 = .ok (.invokevirtual 98, 3) := by decide +kernel
theorem dL_law_169 : decode cL_law 169 = .ok (.iload 6, 2) := by decide +kernel
theorem dL_law_171 : decode cL_law 171 = .ok (.if_icmp .eq 5, 3) := by decide +kernel
theorem dL_law_174 : decode cL_law 174 = .ok (.iconst 0, 1) := by decide +kernel
theorem dL_law_175 : decode cL_law 175 = .ok (.ireturn, 1) := by decide +kernel
theorem dL_law_176 : decode cL_law 176 = .ok (.iload 6, 2) := by decide +kernel
theorem dL_law_178 : decode cL_law 178 = .ok (.ifCond .ne 15, 3) := by decide +kernel
theorem dL_law_181 : decode cL_law 181 = .ok (.aload_n 3, 1) := by decide +kernel
theorem dL_law_182 : decode cL_law 182 = .ok (.iconst 0, 1) := by decide +kernel
theorem dL_law_183 : decode cL_law 183 = .ok (.laload, 1) := by decide +kernel
theorem dL_law_184 : decode cL_law 184 = .ok (.iload 7, 2) := by decide +kernel
theorem dL_law_186 : decode cL_law 186 = .ok (.i2l, 1) := by decide +kernel
theorem dL_law_187 : decode cL_law 187 = .ok (.lcmp, 1) := by decide +kernel
theorem dL_law_188 : decode cL_law 188 = .ok (.ifCond .eq 5, 3) := by decide +kernel
theorem dL_law_191 : decode cL_law 191 = .ok (.iconst 0, 1) := by decide +kernel
theorem dL_law_192 : decode cL_law 192 = .ok (.ireturn, 1) := by decide +kernel
theorem dL_law_193 : decode cL_law 193 = .ok (.goto 1546, 3) := by decide +kernel
theorem dL_law_196 : decode cL_law 196 = .ok (.aload_n 1, 1) := by decide +kernel
theorem dL_law_197 : decode cL_law 197 = .ok (.aload_n 0, 1) := by decide +kernel
theorem dL_law_198 : decode cL_law 198 = .ok (.iload 5, 2) := by decide +kernel
theorem dL_law_200 : decode cL_law 200 = .ok (.iconst 1, 1) := by decide +kernel
theorem dL_law_201 : decode cL_law 201 = .ok (.iadd, 1) := by decide +kernel
theorem dL_law_202 : decode cL_law 202 = .ok (.iaload, 1) := by decide +kernel
theorem dL_law_203 : decode cL_law 203 = .ok (.aload_n 0, 1) := by decide +kernel
theorem dL_law_204 : decode cL_law 204 = .ok (.iload 5, 2) := by decide +kernel
theorem dL_law_206 : decode cL_law 206 = .ok (.iconst 2, 1) := by decide +kernel
theorem dL_law_207 : decode cL_law 207 = .ok (.iadd, 1) := by decide +kernel
theorem dL_law_208 : decode cL_law 208 = .ok (.iaload, 1) := by decide +kernel
theorem dL_law_209 : decode cL_law 209 = .ok (.aload_n 3, 1) := by decide +kernel
theorem dL_law_210 : decode cL_law 210 = .ok (.invokestatic 101, 3) := by decide +kernel
theorem dL_law_213 : decode cL_law 213 = .ok (.istore 6, 2) := by decide +kernel
theorem dL_law_215 : decode cL_law 215 = .ok (.aload_n 2, 1) := by decide +kernel
theorem dL_law_216 : decode cL_law 216 = .ok (.aload_n 0, 1) := by decide +kernel
theorem dL_law_217 : decode cL_law 217 = .ok (.iload 5, 2) := by decide +kernel
theorem dL_law_219 : decode cL_law 219 = .ok (.iconst 1, 1) := by decide +kernel
theorem dL_law_220 : decode cL_law 220 = .ok (.iadd, 1) := by decide +kernel
theorem dL_law_221 : decode cL_law 221 = .ok (.iaload, 1) := by decide +kernel
theorem dL_law_222 : decode cL_law 222 = .ok (.aload_n 0, 1) := by decide +kernel
theorem dL_law_223 : decode cL_law 223 = .ok (.iload 5, 2) := by decide +kernel
theorem dL_law_225 : decode cL_law 225 = .ok (.iconst 2, 1) := by decide +kernel
theorem dL_law_226 : decode cL_law 226 = .ok (.iadd, 1) := by decide +kernel
theorem dL_law_227 : decode cL_law 227 = .ok (.iaload, 1) := by decide +kernel
theorem dL_law_228 : decode cL_law 228 = .ok (.invokevirtual 104, 3) := by decide +kernel
theorem dL_law_231 : decode cL_law 231 = .ok (.istore 7, 2) := by decide +kernel
theorem dL_law_233 : decode cL_law 233 = .ok (.aload_n 2, 1) := by decide +kernel
theorem dL_law_234 : decode cL_law 234 = .ok (.invokevirtual 98, 3) := by decide +kernel
theorem dL_law_237 : decode cL_law 237 = .ok (.iload 6, 2) := by decide +kernel
theorem dL_law_239 : decode cL_law 239 = .ok (.if_icmp .eq 5, 3) := by decide +kernel
theorem dL_law_242 : decode cL_law 242 = .ok (.iconst 0, 1) := by decide +kernel
theorem dL_law_243 : decode cL_law 243 = .ok (.ireturn, 1) := by decide +kernel
theorem dL_law_244 : decode cL_law 244 = .ok (.iload 6, 2) := by decide +kernel
theorem dL_law_246 : decode cL_law 246 = .ok (.ifCond .ne 15, 3) := by decide +kernel
theorem dL_law_249 : decode cL_law 249 = .ok (.aload_n 3, 1) := by decide +kernel
theorem dL_law_250 : decode cL_law 250 = .ok (.iconst 0, 1) := by decide +kernel
theorem dL_law_251 : decode cL_law 251 = .ok (.laload, 1) := by decide +kernel
theorem dL_law_252 : decode cL_law 252 = .ok (.iload 7, 2) := by decide +kernel
theorem dL_law_254 : decode cL_law 254 = .ok (.i2l, 1) := by decide +kernel
theorem dL_law_255 : decode cL_law 255 = .ok (.lcmp, 1) := by decide +kernel
theorem dL_law_256 : decode cL_law 256 = .ok (.ifCond .eq 5, 3) := by decide +kernel
theorem dL_law_259 : decode cL_law 259 = .ok (.iconst 0, 1) := by decide +kernel
theorem dL_law_260 : decode cL_law 260 = .ok (.ireturn, 1) := by decide +kernel
theorem dL_law_261 : decode cL_law 261 = .ok (.goto 1478, 3) := by decide +kernel
theorem dL_law_264 : decode cL_law 264 = .ok (.aload_n 1, 1) := by decide +kernel
theorem dL_law_265 : decode cL_law 265 = .ok (.invokevirtual 105, 3) := by decide +kernel
theorem dL_law_268 : decode cL_law 268 = .ok (.aload_n 2, 1) := by decide +kernel
theorem dL_law_269 : decode cL_law 269 = .ok (.invokevirtual 108, 3) := by decide +kernel
theorem dL_law_272 : decode cL_law 272 = .ok (.if_icmp .eq 1467, 3) := by decide +kernel
theorem dL_law_275 : decode cL_law 275 = .ok (.iconst 0, 1) := by decide +kernel
theorem dL_law_276 : decode cL_law 276 = .ok (.ireturn, 1) := by decide +kernel
theorem dL_law_277 : decode cL_law 277 = .ok (.aload_n 1, 1) := by decide +kernel
theorem dL_law_278 : decode cL_law 278 = .ok (.aload_n 0, 1) := by decide +kernel
theorem dL_law_279 : decode cL_law 279 = .ok (.iload 5, 2) := by decide +kernel
theorem dL_law_281 : decode cL_law 281 = .ok (.iconst 1, 1) := by decide +kernel
theorem dL_law_282 : decode cL_law 282 = .ok (.iadd, 1) := by decide +kernel
theorem dL_law_283 : decode cL_law 283 = .ok (.iaload, 1) := by decide +kernel
theorem dL_law_284 : decode cL_law 284 = .ok (.aload_n 3, 1) := by decide +kernel
theorem dL_law_285 : decode cL_law 285 = .ok (.invokestatic 109, 3) := by decide +kernel
theorem dL_law_288 : decode cL_law 288 = .ok (.istore 6, 2) := by decide +kernel
theorem dL_law_290 : decode cL_law 290 = .ok (.aload_n 2, 1) := by decide +kernel
theorem dL_law_291 : decode cL_law 291 = .ok (.aload_n 0, 1) := by decide +kernel
theorem dL_law_292 : decode cL_law 292 = .ok (.iload 5, 2) := by decide +kernel
theorem dL_law_294 : decode cL_law 294 = .ok (.iconst 1, 1) := by decide +kernel
theorem dL_law_295 : decode cL_law 295 = .ok (.iadd, 1) := by decide +kernel
theorem dL_law_296 : decode cL_law 296 = .ok (.iaload, 1) := by decide +kernel
theorem dL_law_297 : decode cL_law 297 = .ok (.invokevirtual 112, 3) := by decide +kernel
theorem dL_law_300 : decode cL_law 300 = .ok (.istore 7, 2) := by decide +kernel
theorem dL_law_302 : decode cL_law 302 = .ok (.aload_n 2, 1) := by decide +kernel
theorem dL_law_303 : decode cL_law 303 = .ok (.invokevirtual 98, 3) := by decide +kernel
theorem dL_law_306 : decode cL_law 306 = .ok (.iload 6, 2) := by decide +kernel
theorem dL_law_308 : decode cL_law 308 = .ok (.if_icmp .eq 5, 3) := by decide +kernel
theorem dL_law_311 : decode cL_law 311 = .ok (.iconst 0, 1) := by decide +kernel
theorem dL_law_312 : decode cL_law 312 = .ok (.ireturn, 1) := by decide +kernel
theorem dL_law_313 : decode cL_law 313 = .ok (.iload 6, 2) := by decide +kernel
theorem dL_law_315 : decode cL_law 315 = .ok (.ifCond .ne 15, 3) := by decide +kernel
theorem dL_law_318 : decode cL_law 318 = .ok (.aload_n 3, 1) := by decide +kernel
theorem dL_law_319 : decode cL_law 319 = .ok (.iconst 0, 1) := by decide +kernel
theorem dL_law_320 : decode cL_law 320 = .ok (.laload, 1) := by decide +kernel
theorem dL_law_321 : decode cL_law 321 = .ok (.iload 7, 2) := by decide +kernel
theorem dL_law_323 : decode cL_law 323 = .ok (.i2l, 1) := by decide +kernel
theorem dL_law_324 : decode cL_law 324 = .ok (.lcmp, 1) := by decide +kernel
theorem dL_law_325 : decode cL_law 325 = .ok (.ifCond .eq 5, 3) := by decide +kernel
theorem dL_law_328 : decode cL_law 328 = .ok (.iconst 0, 1) := by decide +kernel
theorem dL_law_329 : decode cL_law 329 = .ok (.ireturn, 1) := by decide +kernel
theorem dL_law_330 : decode cL_law 330 = .ok (.goto 1409, 3) := by decide +kernel
theorem dL_law_333 : decode cL_law 333 = .ok (.aload_n 1, 1) := by decide +kernel
theorem dL_law_334 : decode cL_law 334 = .ok (.aload_n 0, 1) := by decide +kernel
theorem dL_law_335 : decode cL_law 335 = .ok (.iload 5, 2) := by decide +kernel
theorem dL_law_337 : decode cL_law 337 = .ok (.iconst 1, 1) := by decide +kernel
theorem dL_law_338 : decode cL_law 338 = .ok (.iadd, 1) := by decide +kernel
theorem dL_law_339 : decode cL_law 339 = .ok (.iaload, 1) := by decide +kernel
theorem dL_law_340 : decode cL_law 340 = .ok (.aload_n 0, 1) := by decide +kernel
theorem dL_law_341 : decode cL_law 341 = .ok (.iload 5, 2) := by decide +kernel
theorem dL_law_343 : decode cL_law 343 = .ok (.iconst 2, 1) := by decide +kernel
theorem dL_law_344 : decode cL_law 344 = .ok (.iadd, 1) := by decide +kernel
theorem dL_law_345 : decode cL_law 345 = .ok (.iaload, 1) := by decide +kernel
theorem dL_law_346 : decode cL_law 346 = .ok (.aload_n 3, 1) := by decide +kernel
theorem dL_law_347 : decode cL_law 347 = .ok (.invokestatic 113, 3) := by decide +kernel
theorem dL_law_350 : decode cL_law 350 = .ok (.istore 6, 2) := by decide +kernel
theorem dL_law_352 : decode cL_law 352 = .ok (.aload_n 2, 1) := by decide +kernel
theorem dL_law_353 : decode cL_law 353 = .ok (.aload_n 0, 1) := by decide +kernel
theorem dL_law_354 : decode cL_law 354 = .ok (.iload 5, 2) := by decide +kernel
theorem dL_law_356 : decode cL_law 356 = .ok (.iconst 1, 1) := by decide +kernel
theorem dL_law_357 : decode cL_law 357 = .ok (.iadd, 1) := by decide +kernel
theorem dL_law_358 : decode cL_law 358 = .ok (.iaload, 1) := by decide +kernel
theorem dL_law_359 : decode cL_law 359 = .ok (.aload_n 0, 1) := by decide +kernel
theorem dL_law_360 : decode cL_law 360 = .ok (.iload 5, 2) := by decide +kernel
theorem dL_law_362 : decode cL_law 362 = .ok (.iconst 2, 1) := by decide +kernel
theorem dL_law_363 : decode cL_law 363 = .ok (.iadd, 1) := by decide +kernel
theorem dL_law_364 : decode cL_law 364 = .ok (.iaload, 1) := by decide +kernel
theorem dL_law_365 : decode cL_law 365 = .ok (.invokevirtual 115, 3) := by decide +kernel
theorem dL_law_368 : decode cL_law 368 = .ok (.istore 7, 2) := by decide +kernel
theorem dL_law_370 : decode cL_law 370 = .ok (.aload_n 2, 1) := by decide +kernel
theorem dL_law_371 : decode cL_law 371 = .ok (.invokevirtual 98, 3) := by decide +kernel
theorem dL_law_374 : decode cL_law 374 = .ok (.iload 6, 2) := by decide +kernel
theorem dL_law_376 : decode cL_law 376 = .ok (.if_icmp .eq 5, 3) := by decide +kernel
theorem dL_law_379 : decode cL_law 379 = .ok (.iconst 0, 1) := by decide +kernel
theorem dL_law_380 : decode cL_law 380 = .ok (.ireturn, 1) := by decide +kernel
theorem dL_law_381 : decode cL_law 381 = .ok (.iload 6, 2) := by decide +kernel
theorem dL_law_383 : decode cL_law 383 = .ok (.ifCond .ne 15, 3) := by decide +kernel
theorem dL_law_386 : decode cL_law 386 = .ok (.aload_n 3, 1) := by decide +kernel
theorem dL_law_387 : decode cL_law 387 = .ok (.iconst 0, 1) := by decide +kernel
theorem dL_law_388 : decode cL_law 388 = .ok (.laload, 1) := by decide +kernel
theorem dL_law_389 : decode cL_law 389 = .ok (.iload 7, 2) := by decide +kernel
theorem dL_law_391 : decode cL_law 391 = .ok (.i2l, 1) := by decide +kernel
theorem dL_law_392 : decode cL_law 392 = .ok (.lcmp, 1) := by decide +kernel
theorem dL_law_393 : decode cL_law 393 = .ok (.ifCond .eq 5, 3) := by decide +kernel
theorem dL_law_396 : decode cL_law 396 = .ok (.iconst 0, 1) := by decide +kernel
theorem dL_law_397 : decode cL_law 397 = .ok (.ireturn, 1) := by decide +kernel
theorem dL_law_398 : decode cL_law 398 = .ok (.goto 1341, 3) := by decide +kernel
theorem dL_law_401 : decode cL_law 401 = .ok (.aload_n 1, 1) := by decide +kernel
theorem dL_law_402 : decode cL_law 402 = .ok (.aload_n 0, 1) := by decide +kernel
theorem dL_law_403 : decode cL_law 403 = .ok (.iload 5, 2) := by decide +kernel
theorem dL_law_405 : decode cL_law 405 = .ok (.iconst 1, 1) := by decide +kernel
theorem dL_law_406 : decode cL_law 406 = .ok (.iadd, 1) := by decide +kernel
theorem dL_law_407 : decode cL_law 407 = .ok (.iaload, 1) := by decide +kernel
theorem dL_law_408 : decode cL_law 408 = .ok (.aload_n 0, 1) := by decide +kernel
theorem dL_law_409 : decode cL_law 409 = .ok (.iload 5, 2) := by decide +kernel
theorem dL_law_411 : decode cL_law 411 = .ok (.iconst 2, 1) := by decide +kernel
theorem dL_law_412 : decode cL_law 412 = .ok (.iadd, 1) := by decide +kernel
theorem dL_law_413 : decode cL_law 413 = .ok (.iaload, 1) := by decide +kernel
theorem dL_law_414 : decode cL_law 414 = .ok (.aload_n 3, 1) := by decide +kernel
theorem dL_law_415 : decode cL_law 415 = .ok (.invokestatic 116, 3) := by decide +kernel
theorem dL_law_418 : decode cL_law 418 = .ok (.istore 6, 2) := by decide +kernel
theorem dL_law_420 : decode cL_law 420 = .ok (.aload_n 2, 1) := by decide +kernel
theorem dL_law_421 : decode cL_law 421 = .ok (.aload_n 0, 1) := by decide +kernel
theorem dL_law_422 : decode cL_law 422 = .ok (.iload 5, 2) := by decide +kernel
theorem dL_law_424 : decode cL_law 424 = .ok (.iconst 1, 1) := by decide +kernel
theorem dL_law_425 : decode cL_law 425 = .ok (.iadd, 1) := by decide +kernel
theorem dL_law_426 : decode cL_law 426 = .ok (.iaload, 1) := by decide +kernel
theorem dL_law_427 : decode cL_law 427 = .ok (.aload_n 0, 1) := by decide +kernel
theorem dL_law_428 : decode cL_law 428 = .ok (.iload 5, 2) := by decide +kernel
theorem dL_law_430 : decode cL_law 430 = .ok (.iconst 2, 1) := by decide +kernel
theorem dL_law_431 : decode cL_law 431 = .ok (.iadd, 1) := by decide +kernel
theorem dL_law_432 : decode cL_law 432 = .ok (.iaload, 1) := by decide +kernel
theorem dL_law_433 : decode cL_law 433 = .ok (.invokevirtual 118, 3) := by decide +kernel
theorem dL_law_436 : decode cL_law 436 = .ok (.istore 7, 2) := by decide +kernel
theorem dL_law_438 : decode cL_law 438 = .ok (.aload_n 2, 1) := by decide +kernel
theorem dL_law_439 : decode cL_law 439 = .ok (.invokevirtual 98, 3) := by decide +kernel
theorem dL_law_442 : decode cL_law 442 = .ok (.iload 6, 2) := by decide +kernel
theorem dL_law_444 : decode cL_law 444 = .ok (.if_icmp .eq 5, 3) := by decide +kernel
theorem dL_law_447 : decode cL_law 447 = .ok (.iconst 0, 1) := by decide +kernel
theorem dL_law_448 : decode cL_law 448 = .ok (.ireturn, 1) := by decide +kernel
theorem dL_law_449 : decode cL_law 449 = .ok (.iload 6, 2) := by decide +kernel
theorem dL_law_451 : decode cL_law 451 = .ok (.ifCond .ne 15, 3) := by decide +kernel
theorem dL_law_454 : decode cL_law 454 = .ok (.aload_n 3, 1) := by decide +kernel
theorem dL_law_455 : decode cL_law 455 = .ok (.iconst 0, 1) := by decide +kernel
theorem dL_law_456 : decode cL_law 456 = .ok (.laload, 1) := by decide +kernel
theorem dL_law_457 : decode cL_law 457 = .ok (.iload 7, 2) := by decide +kernel
theorem dL_law_459 : decode cL_law 459 = .ok (.i2l, 1) := by decide +kernel
theorem dL_law_460 : decode cL_law 460 = .ok (.lcmp, 1) := by decide +kernel
theorem dL_law_461 : decode cL_law 461 = .ok (.ifCond .eq 5, 3) := by decide +kernel
theorem dL_law_464 : decode cL_law 464 = .ok (.iconst 0, 1) := by decide +kernel
theorem dL_law_465 : decode cL_law 465 = .ok (.ireturn, 1) := by decide +kernel
theorem dL_law_466 : decode cL_law 466 = .ok (.goto 1273, 3) := by decide +kernel
theorem dL_law_469 : decode cL_law 469 = .ok (.aload_n 1, 1) := by decide +kernel
theorem dL_law_470 : decode cL_law 470 = .ok (.aload_n 0, 1) := by decide +kernel
theorem dL_law_471 : decode cL_law 471 = .ok (.iload 5, 2) := by decide +kernel
theorem dL_law_473 : decode cL_law 473 = .ok (.iconst 1, 1) := by decide +kernel
theorem dL_law_474 : decode cL_law 474 = .ok (.iadd, 1) := by decide +kernel
theorem dL_law_475 : decode cL_law 475 = .ok (.iaload, 1) := by decide +kernel
theorem dL_law_476 : decode cL_law 476 = .ok (.aload_n 3, 1) := by decide +kernel
theorem dL_law_477 : decode cL_law 477 = .ok (.invokestatic 119, 3) := by decide +kernel
theorem dL_law_480 : decode cL_law 480 = .ok (.istore 6, 2) := by decide +kernel
theorem dL_law_482 : decode cL_law 482 = .ok (.aload_n 2, 1) := by decide +kernel
theorem dL_law_483 : decode cL_law 483 = .ok (.aload_n 0, 1) := by decide +kernel
theorem dL_law_484 : decode cL_law 484 = .ok (.iload 5, 2) := by decide +kernel
theorem dL_law_486 : decode cL_law 486 = .ok (.iconst 1, 1) := by decide +kernel
theorem dL_law_487 : decode cL_law 487 = .ok (.iadd, 1) := by decide +kernel
theorem dL_law_488 : decode cL_law 488 = .ok (.iaload, 1) := by decide +kernel
theorem dL_law_489 : decode cL_law 489 = .ok (.invokevirtual 121, 3) := by decide +kernel
theorem dL_law_492 : decode cL_law 492 = .ok (.istore 7, 2) := by decide +kernel
theorem dL_law_494 : decode cL_law 494 = .ok (.aload_n 2, 1) := by decide +kernel
theorem dL_law_495 : decode cL_law 495 = .ok (.invokevirtual 98, 3) := by decide +kernel
theorem dL_law_498 : decode cL_law 498 = .ok (.iload 6, 2) := by decide +kernel
theorem dL_law_500 : decode cL_law 500 = .ok (.if_icmp .eq 5, 3) := by decide +kernel
theorem dL_law_503 : decode cL_law 503 = .ok (.iconst 0, 1) := by decide +kernel
theorem dL_law_504 : decode cL_law 504 = .ok (.ireturn, 1) := by decide +kernel
theorem dL_law_505 : decode cL_law 505 = .ok (.iload 6, 2) := by decide +kernel
theorem dL_law_507 : decode cL_law 507 = .ok (.ifCond .ne 15, 3) := by decide +kernel
theorem dL_law_510 : decode cL_law 510 = .ok (.aload_n 3, 1) := by decide +kernel
theorem dL_law_511 : decode cL_law 511 = .ok (.iconst 0, 1) := by decide +kernel
theorem dL_law_512 : decode cL_law 512 = .ok (.laload, 1) := by decide +kernel
theorem dL_law_513 : decode cL_law 513 = .ok (.iload 7, 2) := by decide +kernel
theorem dL_law_515 : decode cL_law 515 = .ok (.i2l, 1) := by decide +kernel
theorem dL_law_516 : decode cL_law 516 = .ok (.lcmp, 1) := by decide +kernel
theorem dL_law_517 : decode cL_law 517 = .ok (.ifCond .eq 5, 3) := by decide +kernel
theorem dL_law_520 : decode cL_law 520 = .ok (.iconst 0, 1) := by decide +kernel
theorem dL_law_521 : decode cL_law 521 = .ok (.ireturn, 1) := by decide +kernel
theorem dL_law_522 : decode cL_law 522 = .ok (.goto 1217, 3) := by decide +kernel
theorem dL_law_525 : decode cL_law 525 = .ok (.aload_n 1, 1) := by decide +kernel
theorem dL_law_526 : decode cL_law 526 = .ok (.aload_n 0, 1) := by decide +kernel
theorem dL_law_527 : decode cL_law 527 = .ok (.iload 5, 2) := by decide +kernel
theorem dL_law_529 : decode cL_law 529 = .ok (.iconst 1, 1) := by decide +kernel
theorem dL_law_530 : decode cL_law 530 = .ok (.iadd, 1) := by decide +kernel
theorem dL_law_531 : decode cL_law 531 = .ok (.iaload, 1) := by decide +kernel
theorem dL_law_532 : decode cL_law 532 = .ok (.aload_n 0, 1) := by decide +kernel
theorem dL_law_533 : decode cL_law 533 = .ok (.iload 5, 2) := by decide +kernel
theorem dL_law_535 : decode cL_law 535 = .ok (.iconst 2, 1) := by decide +kernel
theorem dL_law_536 : decode cL_law 536 = .ok (.iadd, 1) := by decide +kernel
theorem dL_law_537 : decode cL_law 537 = .ok (.iaload, 1) := by decide +kernel
theorem dL_law_538 : decode cL_law 538 = .ok (.aload_n 0, 1) := by decide +kernel
theorem dL_law_539 : decode cL_law 539 = .ok (.iload 5, 2) := by decide +kernel
theorem dL_law_541 : decode cL_law 541 = .ok (.iconst 3, 1) := by decide +kernel
theorem dL_law_542 : decode cL_law 542 = .ok (.iadd, 1) := by decide +kernel
theorem dL_law_543 : decode cL_law 543 = .ok (.iaload, 1) := by decide +kernel
theorem dL_law_544 : decode cL_law 544 = .ok (.aload_n 0, 1) := by decide +kernel
theorem dL_law_545 : decode cL_law 545 = .ok (.iload 5, 2) := by decide +kernel
theorem dL_law_547 : decode cL_law 547 = .ok (.iconst 4, 1) := by decide +kernel
theorem dL_law_548 : decode cL_law 548 = .ok (.iadd, 1) := by decide +kernel
theorem dL_law_549 : decode cL_law 549 = .ok (.iaload, 1) := by decide +kernel
theorem dL_law_550 : decode cL_law 550 = .ok (.ifCond .eq 7, 3) := by decide +kernel
theorem dL_law_553 : decode cL_law 553 = .ok (.iconst 1, 1) := by decide +kernel
theorem dL_law_554 : decode cL_law 554 = .ok (.goto 4, 3) := by decide +kernel
theorem dL_law_557 : decode cL_law 557 = .ok (.iconst 0, 1) := by decide +kernel
theorem dL_law_558 : decode cL_law 558 = .ok (.aload_n 3, 1) := by decide +kernel
theorem dL_law_559 : decode cL_law 559 = .ok (.invokestatic 122, 3) := by decide +kernel
theorem dL_law_562 : decode cL_law 562 = .ok (.istore 6, 2) := by decide +kernel
theorem dL_law_564 : decode cL_law 564 = .ok (.aload_n 2, 1) := by decide +kernel
theorem dL_law_565 : decode cL_law 565 = .ok (.aload_n 0, 1) := by decide +kernel
theorem dL_law_566 : decode cL_law 566 = .ok (.iload 5, 2) := by decide +kernel
theorem dL_law_568 : decode cL_law 568 = .ok (.iconst 1, 1) := by decide +kernel
theorem dL_law_569 : decode cL_law 569 = .ok (.iadd, 1) := by decide +kernel
theorem dL_law_570 : decode cL_law 570 = .ok (.iaload, 1) := by decide +kernel
theorem dL_law_571 : decode cL_law 571 = .ok (.aload_n 0, 1) := by decide +kernel
theorem dL_law_572 : decode cL_law 572 = .ok (.iload 5, 2) := by decide +kernel
theorem dL_law_574 : decode cL_law 574 = .ok (.iconst 2, 1) := by decide +kernel
theorem dL_law_575 : decode cL_law 575 = .ok (.iadd, 1) := by decide +kernel
theorem dL_law_576 : decode cL_law 576 = .ok (.iaload, 1) := by decide +kernel
theorem dL_law_577 : decode cL_law 577 = .ok (.aload_n 0, 1) := by decide +kernel
theorem dL_law_578 : decode cL_law 578 = .ok (.iload 5, 2) := by decide +kernel
theorem dL_law_580 : decode cL_law 580 = .ok (.iconst 3, 1) := by decide +kernel
theorem dL_law_581 : decode cL_law 581 = .ok (.iadd, 1) := by decide +kernel
theorem dL_law_582 : decode cL_law 582 = .ok (.iaload, 1) := by decide +kernel
theorem dL_law_583 : decode cL_law 583 = .ok (.aload_n 0, 1) := by decide +kernel
theorem dL_law_584 : decode cL_law 584 = .ok (.iload 5, 2) := by decide +kernel
theorem dL_law_586 : decode cL_law 586 = .ok (.iconst 4, 1) := by decide +kernel
theorem dL_law_587 : decode cL_law 587 = .ok (.iadd, 1) := by decide +kernel
theorem dL_law_588 : decode cL_law 588 = .ok (.iaload, 1) := by decide +kernel
theorem dL_law_589 : decode cL_law 589 = .ok (.ifCond .eq 7, 3) := by decide +kernel
theorem dL_law_592 : decode cL_law 592 = .ok (.iconst 1, 1) := by decide +kernel
theorem dL_law_593 : decode cL_law 593 = .ok (.goto 4, 3) := by decide +kernel
theorem dL_law_596 : decode cL_law 596 = .ok (.iconst 0, 1) := by decide +kernel
theorem dL_law_597 : decode cL_law 597 = .ok (.invokevirtual 125, 3) := by decide +kernel
theorem dL_law_600 : decode cL_law 600 = .ok (.istore 7, 2) := by decide +kernel
theorem dL_law_602 : decode cL_law 602 = .ok (.aload_n 2, 1) := by decide +kernel
theorem dL_law_603 : decode cL_law 603 = .ok (.invokevirtual 98, 3) := by decide +kernel
theorem dL_law_606 : decode cL_law 606 = .ok (.iload 6, 2) := by decide +kernel
theorem dL_law_608 : decode cL_law 608 = .ok (.if_icmp .eq 5, 3) := by decide +kernel
theorem dL_law_611 : decode cL_law 611 = .ok (.iconst 0, 1) := by decide +kernel
theorem dL_law_612 : decode cL_law 612 = .ok (.ireturn, 1) := by decide +kernel
theorem dL_law_613 : decode cL_law 613 = .ok (.iload 6, 2) := by decide +kernel
theorem dL_law_615 : decode cL_law 615 = .ok (.ifCond .ne 15, 3) := by decide +kernel
theorem dL_law_618 : decode cL_law 618 = .ok (.aload_n 3, 1) := by decide +kernel
theorem dL_law_619 : decode cL_law 619 = .ok (.iconst 0, 1) := by decide +kernel
theorem dL_law_620 : decode cL_law 620 = .ok (.laload, 1) := by decide +kernel
theorem dL_law_621 : decode cL_law 621 = .ok (.iload 7, 2) := by decide +kernel
theorem dL_law_623 : decode cL_law 623 = .ok (.i2l, 1) := by decide +kernel
theorem dL_law_624 : decode cL_law 624 = .ok (.lcmp, 1) := by decide +kernel
theorem dL_law_625 : decode cL_law 625 = .ok (.ifCond .eq 5, 3) := by decide +kernel
theorem dL_law_628 : decode cL_law 628 = .ok (.iconst 0, 1) := by decide +kernel
theorem dL_law_629 : decode cL_law 629 = .ok (.ireturn, 1) := by decide +kernel
theorem dL_law_630 : decode cL_law 630 = .ok (.goto 1109, 3) := by decide +kernel
theorem dL_law_633 : decode cL_law 633 = .ok (.aload_n 1, 1) := by decide +kernel
theorem dL_law_634 : decode cL_law 634 = .ok (.aload_n 0, 1) := by decide +kernel
theorem dL_law_635 : decode cL_law 635 = .ok (.iload 5, 2) := by decide +kernel
theorem dL_law_637 : decode cL_law 637 = .ok (.iconst 1, 1) := by decide +kernel
theorem dL_law_638 : decode cL_law 638 = .ok (.iadd, 1) := by decide +kernel
theorem dL_law_639 : decode cL_law 639 = .ok (.iaload, 1) := by decide +kernel
theorem dL_law_640 : decode cL_law 640 = .ok (.aload_n 0, 1) := by decide +kernel
theorem dL_law_641 : decode cL_law 641 = .ok (.iload 5, 2) := by decide +kernel
theorem dL_law_643 : decode cL_law 643 = .ok (.iconst 2, 1) := by decide +kernel
theorem dL_law_644 : decode cL_law 644 = .ok (.iadd, 1) := by decide +kernel
theorem dL_law_645 : decode cL_law 645 = .ok (.iaload, 1) := by decide +kernel
theorem dL_law_646 : decode cL_law 646 = .ok (.aload_n 0, 1) := by decide +kernel
theorem dL_law_647 : decode cL_law 647 = .ok (.iload 5, 2) := by decide +kernel
theorem dL_law_649 : decode cL_law 649 = .ok (.iconst 3, 1) := by decide +kernel
theorem dL_law_650 : decode cL_law 650 = .ok (.iadd, 1) := by decide +kernel
theorem dL_law_651 : decode cL_law 651 = .ok (.iaload, 1) := by decide +kernel
theorem dL_law_652 : decode cL_law 652 = .ok (.aload_n 3, 1) := by decide +kernel
theorem dL_law_653 : decode cL_law 653 = .ok (.invokestatic 126, 3) := by decide +kernel
theorem dL_law_656 : decode cL_law 656 = .ok (.istore 6, 2) := by decide +kernel
theorem dL_law_658 : decode cL_law 658 = .ok (.aload_n 2, 1) := by decide +kernel
theorem dL_law_659 : decode cL_law 659 = .ok (.aload_n 0, 1) := by decide +kernel
theorem dL_law_660 : decode cL_law 660 = .ok (.iload 5, 2) := by decide +kernel
theorem dL_law_662 : decode cL_law 662 = .ok (.iconst 1, 1) := by decide +kernel
theorem dL_law_663 : decode cL_law 663 = .ok (.iadd, 1) := by decide +kernel
theorem dL_law_664 : decode cL_law 664 = .ok (.iaload, 1) := by decide +kernel
theorem dL_law_665 : decode cL_law 665 = .ok (.aload_n 0, 1) := by decide +kernel
theorem dL_law_666 : decode cL_law 666 = .ok (.iload 5, 2) := by decide +kernel
theorem dL_law_668 : decode cL_law 668 = .ok (.iconst 2, 1) := by decide +kernel
theorem dL_law_669 : decode cL_law 669 = .ok (.iadd, 1) := by decide +kernel
theorem dL_law_670 : decode cL_law 670 = .ok (.iaload, 1) := by decide +kernel
theorem dL_law_671 : decode cL_law 671 = .ok (.aload_n 0, 1) := by decide +kernel
theorem dL_law_672 : decode cL_law 672 = .ok (.iload 5, 2) := by decide +kernel
theorem dL_law_674 : decode cL_law 674 = .ok (.iconst 3, 1) := by decide +kernel
theorem dL_law_675 : decode cL_law 675 = .ok (.iadd, 1) := by decide +kernel
theorem dL_law_676 : decode cL_law 676 = .ok (.iaload, 1) := by decide +kernel
theorem dL_law_677 : decode cL_law 677 = .ok (.invokevirtual 129, 3) := by decide +kernel
theorem dL_law_680 : decode cL_law 680 = .ok (.istore 7, 2) := by decide +kernel
theorem dL_law_682 : decode cL_law 682 = .ok (.aload_n 2, 1) := by decide +kernel
theorem dL_law_683 : decode cL_law 683 = .ok (.invokevirtual 98, 3) := by decide +kernel
theorem dL_law_686 : decode cL_law 686 = .ok (.iload 6, 2) := by decide +kernel
theorem dL_law_688 : decode cL_law 688 = .ok (.if_icmp .eq 5, 3) := by decide +kernel
theorem dL_law_691 : decode cL_law 691 = .ok (.iconst 0, 1) := by decide +kernel
theorem dL_law_692 : decode cL_law 692 = .ok (.ireturn, 1) := by decide +kernel
theorem dL_law_693 : decode cL_law 693 = .ok (.iload 6, 2) := by decide +kernel
theorem dL_law_695 : decode cL_law 695 = .ok (.ifCond .ne 15, 3) := by decide +kernel
theorem dL_law_698 : decode cL_law 698 = .ok (.aload_n 3, 1) := by decide +kernel
theorem dL_law_699 : decode cL_law 699 = .ok (.iconst 0, 1) := by decide +kernel
theorem dL_law_700 : decode cL_law 700 = .ok (.laload, 1) := by decide +kernel
theorem dL_law_701 : decode cL_law 701 = .ok (.iload 7, 2) := by decide +kernel
theorem dL_law_703 : decode cL_law 703 = .ok (.i2l, 1) := by decide +kernel
theorem dL_law_704 : decode cL_law 704 = .ok (.lcmp, 1) := by decide +kernel
theorem dL_law_705 : decode cL_law 705 = .ok (.ifCond .eq 5, 3) := by decide +kernel
theorem dL_law_708 : decode cL_law 708 = .ok (.iconst 0, 1) := by decide +kernel
theorem dL_law_709 : decode cL_law 709 = .ok (.ireturn, 1) := by decide +kernel
theorem dL_law_710 : decode cL_law 710 = .ok (.goto 1029, 3) := by decide +kernel
theorem dL_law_713 : decode cL_law 713 = .ok (.aload_n 1, 1) := by decide +kernel
theorem dL_law_714 : decode cL_law 714 = .ok (.aload_n 0, 1) := by decide +kernel
theorem dL_law_715 : decode cL_law 715 = .ok (.iload 5, 2) := by decide +kernel
theorem dL_law_717 : decode cL_law 717 = .ok (.iconst 1, 1) := by decide +kernel
theorem dL_law_718 : decode cL_law 718 = .ok (.iadd, 1) := by decide +kernel
theorem dL_law_719 : decode cL_law 719 = .ok (.iaload, 1) := by decide +kernel
theorem dL_law_720 : decode cL_law 720 = .ok (.aload_n 0, 1) := by decide +kernel
theorem dL_law_721 : decode cL_law 721 = .ok (.iload 5, 2) := by decide +kernel
theorem dL_law_723 : decode cL_law 723 = .ok (.iconst 2, 1) := by decide +kernel
theorem dL_law_724 : decode cL_law 724 = .ok (.iadd, 1) := by decide +kernel
theorem dL_law_725 : decode cL_law 725 = .ok (.iaload, 1) := by decide +kernel
theorem dL_law_726 : decode cL_law 726 = .ok (.aload_n 0, 1) := by decide +kernel
theorem dL_law_727 : decode cL_law 727 = .ok (.iload 5, 2) := by decide +kernel
theorem dL_law_729 : decode cL_law 729 = .ok (.iconst 3, 1) := by decide +kernel
theorem dL_law_730 : decode cL_law 730 = .ok (.iadd, 1) := by decide +kernel
theorem dL_law_731 : decode cL_law 731 = .ok (.iaload, 1) := by decide +kernel
theorem dL_law_732 : decode cL_law 732 = .ok (.aload_n 0, 1) := by decide +kernel
theorem dL_law_733 : decode cL_law 733 = .ok (.iload 5, 2) := by decide +kernel
theorem dL_law_735 : decode cL_law 735 = .ok (.iconst 4, 1) := by decide +kernel
theorem dL_law_736 : decode cL_law 736 = .ok (.iadd, 1) := by decide +kernel
theorem dL_law_737 : decode cL_law 737 = .ok (.iaload, 1) := by decide +kernel
theorem dL_law_738 : decode cL_law 738 = .ok (.aload_n 3, 1) := by decide +kernel
theorem dL_law_739 : decode cL_law 739 = .ok (.invokestatic 130, 3) := by decide +kernel
theorem dL_law_742 : decode cL_law 742 = .ok (.istore 6, 2) := by decide +kernel
theorem dL_law_744 : decode cL_law 744 = .ok (.aload_n 2, 1) := by decide +kernel
theorem dL_law_745 : decode cL_law 745 = .ok (.aload_n 0, 1) := by decide +kernel
theorem dL_law_746 : decode cL_law 746 = .ok (.iload 5, 2) := by decide +kernel
theorem dL_law_748 : decode cL_law 748 = .ok (.iconst 1, 1) := by decide +kernel
theorem dL_law_749 : decode cL_law 749 = .ok (.iadd, 1) := by decide +kernel
theorem dL_law_750 : decode cL_law 750 = .ok (.iaload, 1) := by decide +kernel
theorem dL_law_751 : decode cL_law 751 = .ok (.aload_n 0, 1) := by decide +kernel
theorem dL_law_752 : decode cL_law 752 = .ok (.iload 5, 2) := by decide +kernel
theorem dL_law_754 : decode cL_law 754 = .ok (.iconst 2, 1) := by decide +kernel
theorem dL_law_755 : decode cL_law 755 = .ok (.iadd, 1) := by decide +kernel
theorem dL_law_756 : decode cL_law 756 = .ok (.iaload, 1) := by decide +kernel
theorem dL_law_757 : decode cL_law 757 = .ok (.aload_n 0, 1) := by decide +kernel
theorem dL_law_758 : decode cL_law 758 = .ok (.iload 5, 2) := by decide +kernel
theorem dL_law_760 : decode cL_law 760 = .ok (.iconst 3, 1) := by decide +kernel
theorem dL_law_761 : decode cL_law 761 = .ok (.iadd, 1) := by decide +kernel
theorem dL_law_762 : decode cL_law 762 = .ok (.iaload, 1) := by decide +kernel
theorem dL_law_763 : decode cL_law 763 = .ok (.aload_n 0, 1) := by decide +kernel
theorem dL_law_764 : decode cL_law 764 = .ok (.iload 5, 2) := by decide +kernel
theorem dL_law_766 : decode cL_law 766 = .ok (.iconst 4, 1) := by decide +kernel
theorem dL_law_767 : decode cL_law 767 = .ok (.iadd, 1) := by decide +kernel
theorem dL_law_768 : decode cL_law 768 = .ok (.iaload, 1) := by decide +kernel
theorem dL_law_769 : decode cL_law 769 = .ok (.invokevirtual 133, 3) := by decide +kernel
theorem dL_law_772 : decode cL_law 772 = .ok (.istore 7, 2) := by decide +kernel
theorem dL_law_774 : decode cL_law 774 = .ok (.aload_n 2, 1) := by decide +kernel
theorem dL_law_775 : decode cL_law 775 = .ok (.invokevirtual 98, 3) := by decide +kernel
theorem dL_law_778 : decode cL_law 778 = .ok (.iload 6, 2) := by decide +kernel
theorem dL_law_780 : decode cL_law 780 = .ok (.if_icmp .eq 5, 3) := by decide +kernel
theorem dL_law_783 : decode cL_law 783 = .ok (.iconst 0, 1) := by decide +kernel
theorem dL_law_784 : decode cL_law 784 = .ok (.ireturn, 1) := by decide +kernel
theorem dL_law_785 : decode cL_law 785 = .ok (.iload 6, 2) := by decide +kernel
theorem dL_law_787 : decode cL_law 787 = .ok (.ifCond .ne 15, 3) := by decide +kernel
theorem dL_law_790 : decode cL_law 790 = .ok (.aload_n 3, 1) := by decide +kernel
theorem dL_law_791 : decode cL_law 791 = .ok (.iconst 0, 1) := by decide +kernel
theorem dL_law_792 : decode cL_law 792 = .ok (.laload, 1) := by decide +kernel
theorem dL_law_793 : decode cL_law 793 = .ok (.iload 7, 2) := by decide +kernel
theorem dL_law_795 : decode cL_law 795 = .ok (.i2l, 1) := by decide +kernel
theorem dL_law_796 : decode cL_law 796 = .ok (.lcmp, 1) := by decide +kernel
theorem dL_law_797 : decode cL_law 797 = .ok (.ifCond .eq 5, 3) := by decide +kernel
theorem dL_law_800 : decode cL_law 800 = .ok (.iconst 0, 1) := by decide +kernel
theorem dL_law_801 : decode cL_law 801 = .ok (.ireturn, 1) := by decide +kernel
theorem dL_law_802 : decode cL_law 802 = .ok (.goto 937, 3) := by decide +kernel
theorem dL_law_805 : decode cL_law 805 = .ok (.aload_n 1, 1) := by decide +kernel
theorem dL_law_806 : decode cL_law 806 = .ok (.aload_n 0, 1) := by decide +kernel
theorem dL_law_807 : decode cL_law 807 = .ok (.iload 5, 2) := by decide +kernel
theorem dL_law_809 : decode cL_law 809 = .ok (.iconst 1, 1) := by decide +kernel
theorem dL_law_810 : decode cL_law 810 = .ok (.iadd, 1) := by decide +kernel
theorem dL_law_811 : decode cL_law 811 = .ok (.iaload, 1) := by decide +kernel
theorem dL_law_812 : decode cL_law 812 = .ok (.aload_n 0, 1) := by decide +kernel
theorem dL_law_813 : decode cL_law 813 = .ok (.iload 5, 2) := by decide +kernel
theorem dL_law_815 : decode cL_law 815 = .ok (.iconst 2, 1) := by decide +kernel
theorem dL_law_816 : decode cL_law 816 = .ok (.iadd, 1) := by decide +kernel
theorem dL_law_817 : decode cL_law 817 = .ok (.iaload, 1) := by decide +kernel
theorem dL_law_818 : decode cL_law 818 = .ok (.ifCond .eq 7, 3) := by decide +kernel
theorem dL_law_821 : decode cL_law 821 = .ok (.iconst 1, 1) := by decide +kernel
theorem dL_law_822 : decode cL_law 822 = .ok (.goto 4, 3) := by decide +kernel
theorem dL_law_825 : decode cL_law 825 = .ok (.iconst 0, 1) := by decide +kernel
theorem dL_law_826 : decode cL_law 826 = .ok (.aload_n 3, 1) := by decide +kernel
theorem dL_law_827 : decode cL_law 827 = .ok (.invokestatic 134, 3) := by decide +kernel
theorem dL_law_830 : decode cL_law 830 = .ok (.istore 6, 2) := by decide +kernel
theorem dL_law_832 : decode cL_law 832 = .ok (.aload_n 2, 1) := by decide +kernel
theorem dL_law_833 : decode cL_law 833 = .ok (.aload_n 0, 1) := by decide +kernel
theorem dL_law_834 : decode cL_law 834 = .ok (.iload 5, 2) := by decide +kernel
theorem dL_law_836 : decode cL_law 836 = .ok (.iconst 1, 1) := by decide +kernel
theorem dL_law_837 : decode cL_law 837 = .ok (.iadd, 1) := by decide +kernel
theorem dL_law_838 : decode cL_law 838 = .ok (.iaload, 1) := by decide +kernel
theorem dL_law_839 : decode cL_law 839 = .ok (.aload_n 0, 1) := by decide +kernel
theorem dL_law_840 : decode cL_law 840 = .ok (.iload 5, 2) := by decide +kernel
theorem dL_law_842 : decode cL_law 842 = .ok (.iconst 2, 1) := by decide +kernel
theorem dL_law_843 : decode cL_law 843 = .ok (.iadd, 1) := by decide +kernel
theorem dL_law_844 : decode cL_law 844 = .ok (.iaload, 1) := by decide +kernel
theorem dL_law_845 : decode cL_law 845 = .ok (.ifCond .eq 7, 3) := by decide +kernel
theorem dL_law_848 : decode cL_law 848 = .ok (.iconst 1, 1) := by decide +kernel
theorem dL_law_849 : decode cL_law 849 = .ok (.goto 4, 3) := by decide +kernel
theorem dL_law_852 : decode cL_law 852 = .ok (.iconst 0, 1) := by decide +kernel
theorem dL_law_853 : decode cL_law 853 = .ok (.invokevirtual 137, 3) := by decide +kernel
theorem dL_law_856 : decode cL_law 856 = .ok (.istore 7, 2) := by decide +kernel
theorem dL_law_858 : decode cL_law 858 = .ok (.aload_n 2, 1) := by decide +kernel
theorem dL_law_859 : decode cL_law 859 = .ok (.invokevirtual 98, 3) := by decide +kernel
theorem dL_law_862 : decode cL_law 862 = .ok (.iload 6, 2) := by decide +kernel
theorem dL_law_864 : decode cL_law 864 = .ok (.if_icmp .eq 5, 3) := by decide +kernel
theorem dL_law_867 : decode cL_law 867 = .ok (.iconst 0, 1) := by decide +kernel
theorem dL_law_868 : decode cL_law 868 = .ok (.ireturn, 1) := by decide +kernel
theorem dL_law_869 : decode cL_law 869 = .ok (.iload 6, 2) := by decide +kernel
theorem dL_law_871 : decode cL_law 871 = .ok (.ifCond .ne 15, 3) := by decide +kernel
theorem dL_law_874 : decode cL_law 874 = .ok (.aload_n 3, 1) := by decide +kernel
theorem dL_law_875 : decode cL_law 875 = .ok (.iconst 0, 1) := by decide +kernel
theorem dL_law_876 : decode cL_law 876 = .ok (.laload, 1) := by decide +kernel
theorem dL_law_877 : decode cL_law 877 = .ok (.iload 7, 2) := by decide +kernel
theorem dL_law_879 : decode cL_law 879 = .ok (.i2l, 1) := by decide +kernel
theorem dL_law_880 : decode cL_law 880 = .ok (.lcmp, 1) := by decide +kernel
theorem dL_law_881 : decode cL_law 881 = .ok (.ifCond .eq 5, 3) := by decide +kernel
theorem dL_law_884 : decode cL_law 884 = .ok (.iconst 0, 1) := by decide +kernel
theorem dL_law_885 : decode cL_law 885 = .ok (.ireturn, 1) := by decide +kernel
theorem dL_law_886 : decode cL_law 886 = .ok (.goto 853, 3) := by decide +kernel
theorem dL_law_889 : decode cL_law 889 = .ok (.aload_n 1, 1) := by decide +kernel
theorem dL_law_890 : decode cL_law 890 = .ok (.aload_n 0, 1) := by decide +kernel
theorem dL_law_891 : decode cL_law 891 = .ok (.iload 5, 2) := by decide +kernel
theorem dL_law_893 : decode cL_law 893 = .ok (.iconst 1, 1) := by decide +kernel
theorem dL_law_894 : decode cL_law 894 = .ok (.iadd, 1) := by decide +kernel
theorem dL_law_895 : decode cL_law 895 = .ok (.iaload, 1) := by decide +kernel
theorem dL_law_896 : decode cL_law 896 = .ok (.aload_n 0, 1) := by decide +kernel
theorem dL_law_897 : decode cL_law 897 = .ok (.iload 5, 2) := by decide +kernel
theorem dL_law_899 : decode cL_law 899 = .ok (.iconst 2, 1) := by decide +kernel
theorem dL_law_900 : decode cL_law 900 = .ok (.iadd, 1) := by decide +kernel
theorem dL_law_901 : decode cL_law 901 = .ok (.iaload, 1) := by decide +kernel
theorem dL_law_902 : decode cL_law 902 = .ok (.ifCond .eq 7, 3) := by decide +kernel
theorem dL_law_905 : decode cL_law 905 = .ok (.iconst 1, 1) := by decide +kernel
theorem dL_law_906 : decode cL_law 906 = .ok (.goto 4, 3) := by decide +kernel
theorem dL_law_909 : decode cL_law 909 = .ok (.iconst 0, 1) := by decide +kernel
theorem dL_law_910 : decode cL_law 910 = .ok (.aload_n 3, 1) := by decide +kernel
theorem dL_law_911 : decode cL_law 911 = .ok (.invokestatic 138, 3) := by decide +kernel
theorem dL_law_914 : decode cL_law 914 = .ok (.istore 6, 2) := by decide +kernel
theorem dL_law_916 : decode cL_law 916 = .ok (.aload_n 2, 1) := by decide +kernel
theorem dL_law_917 : decode cL_law 917 = .ok (.aload_n 0, 1) := by decide +kernel
theorem dL_law_918 : decode cL_law 918 = .ok (.iload 5, 2) := by decide +kernel
theorem dL_law_920 : decode cL_law 920 = .ok (.iconst 1, 1) := by decide +kernel
theorem dL_law_921 : decode cL_law 921 = .ok (.iadd, 1) := by decide +kernel
theorem dL_law_922 : decode cL_law 922 = .ok (.iaload, 1) := by decide +kernel
theorem dL_law_923 : decode cL_law 923 = .ok (.aload_n 0, 1) := by decide +kernel
theorem dL_law_924 : decode cL_law 924 = .ok (.iload 5, 2) := by decide +kernel
theorem dL_law_926 : decode cL_law 926 = .ok (.iconst 2, 1) := by decide +kernel
theorem dL_law_927 : decode cL_law 927 = .ok (.iadd, 1) := by decide +kernel
theorem dL_law_928 : decode cL_law 928 = .ok (.iaload, 1) := by decide +kernel
theorem dL_law_929 : decode cL_law 929 = .ok (.ifCond .eq 7, 3) := by decide +kernel
theorem dL_law_932 : decode cL_law 932 = .ok (.iconst 1, 1) := by decide +kernel
theorem dL_law_933 : decode cL_law 933 = .ok (.goto 4, 3) := by decide +kernel
theorem dL_law_936 : decode cL_law 936 = .ok (.iconst 0, 1) := by decide +kernel
theorem dL_law_937 : decode cL_law 937 = .ok (.invokevirtual 140, 3) := by decide +kernel
theorem dL_law_940 : decode cL_law 940 = .ok (.istore 7, 2) := by decide +kernel
theorem dL_law_942 : decode cL_law 942 = .ok (.aload_n 2, 1) := by decide +kernel
theorem dL_law_943 : decode cL_law 943 = .ok (.invokevirtual 98, 3) := by decide +kernel
theorem dL_law_946 : decode cL_law 946 = .ok (.iload 6, 2) := by decide +kernel
theorem dL_law_948 : decode cL_law 948 = .ok (.if_icmp .eq 5, 3) := by decide +kernel
theorem dL_law_951 : decode cL_law 951 = .ok (.iconst 0, 1) := by decide +kernel
theorem dL_law_952 : decode cL_law 952 = .ok (.ireturn, 1) := by decide +kernel
theorem dL_law_953 : decode cL_law 953 = .ok (.iload 6, 2) := by decide +kernel
theorem dL_law_955 : decode cL_law 955 = .ok (.ifCond .ne 15, 3) := by decide +kernel
theorem dL_law_958 : decode cL_law 958 = .ok (.aload_n 3, 1) := by decide +kernel
theorem dL_law_959 : decode cL_law 959 = .ok (.iconst 0, 1) := by decide +kernel
theorem dL_law_960 : decode cL_law 960 = .ok (.laload, 1) := by decide +kernel
theorem dL_law_961 : decode cL_law 961 = .ok (.iload 7, 2) := by decide +kernel
theorem dL_law_963 : decode cL_law 963 = .ok (.i2l, 1) := by decide +kernel
theorem dL_law_964 : decode cL_law 964 = .ok (.lcmp, 1) := by decide +kernel
theorem dL_law_965 : decode cL_law 965 = .ok (.ifCond .eq 5, 3) := by decide +kernel
theorem dL_law_968 : decode cL_law 968 = .ok (.iconst 0, 1) := by decide +kernel
theorem dL_law_969 : decode cL_law 969 = .ok (.ireturn, 1) := by decide +kernel
theorem dL_law_970 : decode cL_law 970 = .ok (.goto 769, 3) := by decide +kernel
theorem dL_law_973 : decode cL_law 973 = .ok (.aload_n 1, 1) := by decide +kernel
theorem dL_law_974 : decode cL_law 974 = .ok (.aload_n 0, 1) := by decide +kernel
theorem dL_law_975 : decode cL_law 975 = .ok (.iload 5, 2) := by decide +kernel
theorem dL_law_977 : decode cL_law 977 = .ok (.iconst 1, 1) := by decide +kernel
theorem dL_law_978 : decode cL_law 978 = .ok (.iadd, 1) := by decide +kernel
theorem dL_law_979 : decode cL_law 979 = .ok (.iaload, 1) := by decide +kernel
theorem dL_law_980 : decode cL_law 980 = .ok (.aload_n 0, 1) := by decide +kernel
theorem dL_law_981 : decode cL_law 981 = .ok (.iload 5, 2) := by decide +kernel
theorem dL_law_983 : decode cL_law 983 = .ok (.iconst 2, 1) := by decide +kernel
theorem dL_law_984 : decode cL_law 984 = .ok (.iadd, 1) := by decide +kernel
theorem dL_law_985 : decode cL_law 985 = .ok (.iaload, 1) := by decide +kernel
theorem dL_law_986 : decode cL_law 986 = .ok (.ifCond .eq 7, 3) := by decide +kernel
theorem dL_law_989 : decode cL_law 989 = .ok (.iconst 1, 1) := by decide +kernel
theorem dL_law_990 : decode cL_law 990 = .ok (.goto 4, 3) := by decide +kernel
theorem dL_law_993 : decode cL_law 993 = .ok (.iconst 0, 1) := by decide +kernel
theorem dL_law_994 : decode cL_law 994 = .ok (.aload_n 3, 1) := by decide +kernel
theorem dL_law_995 : decode cL_law 995 = .ok (.invokestatic 141, 3) := by decide +kernel
theorem dL_law_998 : decode cL_law 998 = .ok (.istore 6, 2) := by decide +kernel
theorem dL_law_1000 : decode cL_law 1000 = .ok (.aload_n 2, 1) := by decide +kernel
theorem dL_law_1001 : decode cL_law 1001 = .ok (.aload_n 0, 1) := by decide +kernel
theorem dL_law_1002 : decode cL_law 1002 = .ok (.iload 5, 2) := by decide +kernel
theorem dL_law_1004 : decode cL_law 1004 = .ok (.iconst 1, 1) := by decide +kernel
theorem dL_law_1005 : decode cL_law 1005 = .ok (.iadd, 1) := by decide +kernel
theorem dL_law_1006 : decode cL_law 1006 = .ok (.iaload, 1) := by decide +kernel
theorem dL_law_1007 : decode cL_law 1007 = .ok (.aload_n 0, 1) := by decide +kernel
theorem dL_law_1008 : decode cL_law 1008 = .ok (.iload 5, 2) := by decide +kernel
theorem dL_law_1010 : decode cL_law 1010 = .ok (.iconst 2, 1) := by decide +kernel
theorem dL_law_1011 : decode cL_law 1011 = .ok (.iadd, 1) := by decide +kernel
theorem dL_law_1012 : decode cL_law 1012 = .ok (.iaload, 1) := by decide +kernel
theorem dL_law_1013 : decode cL_law 1013 = .ok (.ifCond .eq 7, 3) := by decide +kernel
theorem dL_law_1016 : decode cL_law 1016 = .ok (.iconst 1, 1) := by decide +kernel
theorem dL_law_1017 : decode cL_law 1017 = .ok (.goto 4, 3) := by decide +kernel
theorem dL_law_1020 : decode cL_law 1020 = .ok (.iconst 0, 1) := by decide +kernel
theorem dL_law_1021 : decode cL_law 1021 = .ok (.invokevirtual 143, 3) := by decide +kernel
theorem dL_law_1024 : decode cL_law 1024 = .ok (.istore 7, 2) := by decide +kernel
theorem dL_law_1026 : decode cL_law 1026 = .ok (.aload_n 2, 1) := by decide +kernel
theorem dL_law_1027 : decode cL_law 1027 = .ok (.invokevirtual 98, 3) := by decide +kernel
theorem dL_law_1030 : decode cL_law 1030 = .ok (.iload 6, 2) := by decide +kernel
theorem dL_law_1032 : decode cL_law 1032 = .ok (.if_icmp .eq 5, 3) := by decide +kernel
theorem dL_law_1035 : decode cL_law 1035 = .ok (.iconst 0, 1) := by decide +kernel
theorem dL_law_1036 : decode cL_law 1036 = .ok (.ireturn, 1) := by decide +kernel
theorem dL_law_1037 : decode cL_law 1037 = .ok (.iload 6, 2) := by decide +kernel
theorem dL_law_1039 : decode cL_law 1039 = .ok (.ifCond .ne 15, 3) := by decide +kernel
theorem dL_law_1042 : decode cL_law 1042 = .ok (.aload_n 3, 1) := by decide +kernel
theorem dL_law_1043 : decode cL_law 1043 = .ok (.iconst 0, 1) := by decide +kernel
theorem dL_law_1044 : decode cL_law 1044 = .ok (.laload, 1) := by decide +kernel
theorem dL_law_1045 : decode cL_law 1045 = .ok (.iload 7, 2) := by decide +kernel
theorem dL_law_1047 : decode cL_law 1047 = .ok (.i2l, 1) := by decide +kernel
theorem dL_law_1048 : decode cL_law 1048 = .ok (.lcmp, 1) := by decide +kernel
theorem dL_law_1049 : decode cL_law 1049 = .ok (.ifCond .eq 5, 3) := by decide +kernel
theorem dL_law_1052 : decode cL_law 1052 = .ok (.iconst 0, 1) := by decide +kernel
theorem dL_law_1053 : decode cL_law 1053 = .ok (.ireturn, 1) := by decide +kernel
theorem dL_law_1054 : decode cL_law 1054 = .ok (.goto 685, 3) := by decide +kernel
theorem dL_law_1057 : decode cL_law 1057 = .ok (.aload_n 1, 1) := by decide +kernel
theorem dL_law_1058 : decode cL_law 1058 = .ok (.aload_n 0, 1) := by decide +kernel
theorem dL_law_1059 : decode cL_law 1059 = .ok (.iload 5, 2) := by decide +kernel
theorem dL_law_1061 : decode cL_law 1061 = .ok (.iconst 1, 1) := by decide +kernel
theorem dL_law_1062 : decode cL_law 1062 = .ok (.iadd, 1) := by decide +kernel
theorem dL_law_1063 : decode cL_law 1063 = .ok (.iaload, 1) := by decide +kernel
theorem dL_law_1064 : decode cL_law 1064 = .ok (.aload_n 0, 1) := by decide +kernel
theorem dL_law_1065 : decode cL_law 1065 = .ok (.iload 5, 2) := by decide +kernel
theorem dL_law_1067 : decode cL_law 1067 = .ok (.iconst 2, 1) := by decide +kernel
theorem dL_law_1068 : decode cL_law 1068 = .ok (.iadd, 1) := by decide +kernel
theorem dL_law_1069 : decode cL_law 1069 = .ok (.iaload, 1) := by decide +kernel
theorem dL_law_1070 : decode cL_law 1070 = .ok (.ifCond .eq 7, 3) := by decide +kernel
theorem dL_law_1073 : decode cL_law 1073 = .ok (.iconst 1, 1) := by decide +kernel
theorem dL_law_1074 : decode cL_law 1074 = .ok (.goto 4, 3) := by decide +kernel
theorem dL_law_1077 : decode cL_law 1077 = .ok (.iconst 0, 1) := by decide +kernel
theorem dL_law_1078 : decode cL_law 1078 = .ok (.aload_n 0, 1) := by decide +kernel
theorem dL_law_1079 : decode cL_law 1079 = .ok (.iload 5, 2) := by decide +kernel
theorem dL_law_1081 : decode cL_law 1081 = .ok (.iconst 3, 1) := by decide +kernel
theorem dL_law_1082 : decode cL_law 1082 = .ok (.iadd, 1) := by decide +kernel
theorem dL_law_1083 : decode cL_law 1083 = .ok (.iaload, 1) := by decide +kernel
theorem dL_law_1084 : decode cL_law 1084 = .ok (.aload_n 3, 1) := by decide +kernel
theorem dL_law_1085 : decode cL_law 1085 = .ok (.invokestatic 144, 3) := by decide +kernel
theorem dL_law_1088 : decode cL_law 1088 = .ok (.istore 6, 2) := by decide +kernel
theorem dL_law_1090 : decode cL_law 1090 = .ok (.aload_n 2, 1) := by decide +kernel
theorem dL_law_1091 : decode cL_law 1091 = .ok (.aload_n 0, 1) := by decide +kernel
theorem dL_law_1092 : decode cL_law 1092 = .ok (.iload 5, 2) := by decide +kernel
theorem dL_law_1094 : decode cL_law 1094 = .ok (.iconst 1, 1) := by decide +kernel
theorem dL_law_1095 : decode cL_law 1095 = .ok (.iadd, 1) := by decide +kernel
theorem dL_law_1096 : decode cL_law 1096 = .ok (.iaload, 1) := by decide +kernel
theorem dL_law_1097 : decode cL_law 1097 = .ok (.aload_n 0, 1) := by decide +kernel
theorem dL_law_1098 : decode cL_law 1098 = .ok (.iload 5, 2) := by decide +kernel
theorem dL_law_1100 : decode cL_law 1100 = .ok (.iconst 2, 1) := by decide +kernel
theorem dL_law_1101 : decode cL_law 1101 = .ok (.iadd, 1) := by decide +kernel
theorem dL_law_1102 : decode cL_law 1102 = .ok (.iaload, 1) := by decide +kernel
theorem dL_law_1103 : decode cL_law 1103 = .ok (.ifCond .eq 7, 3) := by decide +kernel
theorem dL_law_1106 : decode cL_law 1106 = .ok (.iconst 1, 1) := by decide +kernel
theorem dL_law_1107 : decode cL_law 1107 = .ok (.goto 4, 3) := by decide +kernel
theorem dL_law_1110 : decode cL_law 1110 = .ok (.iconst 0, 1) := by decide +kernel
theorem dL_law_1111 : decode cL_law 1111 = .ok (.aload_n 0, 1) := by decide +kernel
theorem dL_law_1112 : decode cL_law 1112 = .ok (.iload 5, 2) := by decide +kernel
theorem dL_law_1114 : decode cL_law 1114 = .ok (.iconst 3, 1) := by decide +kernel
theorem dL_law_1115 : decode cL_law 1115 = .ok (.iadd, 1) := by decide +kernel
theorem dL_law_1116 : decode cL_law 1116 = .ok (.iaload, 1) := by decide +kernel
theorem dL_law_1117 : decode cL_law 1117 = .ok (.invokevirtual 147, 3) := by decide +kernel
theorem dL_law_1120 : decode cL_law 1120 = .ok (.istore 7, 2) := by decide +kernel
theorem dL_law_1122 : decode cL_law 1122 = .ok (.aload_n 2, 1) := by decide +kernel
theorem dL_law_1123 : decode cL_law 1123 = .ok (.invokevirtual 98, 3) := by decide +kernel
theorem dL_law_1126 : decode cL_law 1126 = .ok (.iload 6, 2) := by decide +kernel
theorem dL_law_1128 : decode cL_law 1128 = .ok (.if_icmp .eq 5, 3) := by decide +kernel
theorem dL_law_1131 : decode cL_law 1131 = .ok (.iconst 0, 1) := by decide +kernel
theorem dL_law_1132 : decode cL_law 1132 = .ok (.ireturn, 1) := by decide +kernel
theorem dL_law_1133 : decode cL_law 1133 = .ok (.iload 6, 2) := by decide +kernel
theorem dL_law_1135 : decode cL_law 1135 = .ok (.ifCond .ne 15, 3) := by decide +kernel
theorem dL_law_1138 : decode cL_law 1138 = .ok (.aload_n 3, 1) := by decide +kernel
theorem dL_law_1139 : decode cL_law 1139 = .ok (.iconst 0, 1) := by decide +kernel
theorem dL_law_1140 : decode cL_law 1140 = .ok (.laload, 1) := by decide +kernel
theorem dL_law_1141 : decode cL_law 1141 = .ok (.iload 7, 2) := by decide +kernel
theorem dL_law_1143 : decode cL_law 1143 = .ok (.i2l, 1) := by decide +kernel
theorem dL_law_1144 : decode cL_law 1144 = .ok (.lcmp, 1) := by decide +kernel
theorem dL_law_1145 : decode cL_law 1145 = .ok (.ifCond .eq 5, 3) := by decide +kernel
theorem dL_law_1148 : decode cL_law 1148 = .ok (.iconst 0, 1) := by decide +kernel
theorem dL_law_1149 : decode cL_law 1149 = .ok (.ireturn, 1) := by decide +kernel
theorem dL_law_1150 : decode cL_law 1150 = .ok (.goto 589, 3) := by decide +kernel
theorem dL_law_1153 : decode cL_law 1153 = .ok (.aload_n 1, 1) := by decide +kernel
theorem dL_law_1154 : decode cL_law 1154 = .ok (.aload_n 0, 1) := by decide +kernel
theorem dL_law_1155 : decode cL_law 1155 = .ok (.iload 5, 2) := by decide +kernel
theorem dL_law_1157 : decode cL_law 1157 = .ok (.iconst 1, 1) := by decide +kernel
theorem dL_law_1158 : decode cL_law 1158 = .ok (.iadd, 1) := by decide +kernel
theorem dL_law_1159 : decode cL_law 1159 = .ok (.iaload, 1) := by decide +kernel
theorem dL_law_1160 : decode cL_law 1160 = .ok (.aload_n 3, 1) := by decide +kernel
theorem dL_law_1161 : decode cL_law 1161 = .ok (.invokestatic 148, 3) := by decide +kernel
theorem dL_law_1164 : decode cL_law 1164 = .ok (.istore 6, 2) := by decide +kernel
theorem dL_law_1166 : decode cL_law 1166 = .ok (.aload_n 2, 1) := by decide +kernel
theorem dL_law_1167 : decode cL_law 1167 = .ok (.aload_n 0, 1) := by decide +kernel
theorem dL_law_1168 : decode cL_law 1168 = .ok (.iload 5, 2) := by decide +kernel
theorem dL_law_1170 : decode cL_law 1170 = .ok (.iconst 1, 1) := by decide +kernel
theorem dL_law_1171 : decode cL_law 1171 = .ok (.iadd, 1) := by decide +kernel
theorem dL_law_1172 : decode cL_law 1172 = .ok (.iaload, 1) := by decide +kernel
theorem dL_law_1173 : decode cL_law 1173 = .ok (.invokevirtual 150, 3) := by decide +kernel
theorem dL_law_1176 : decode cL_law 1176 = .ok (.istore 7, 2) := by decide +kernel
theorem dL_law_1178 : decode cL_law 1178 = .ok (.aload_n 2, 1) := by decide +kernel
theorem dL_law_1179 : decode cL_law 1179 = .ok (.invokevirtual 98, 3) := by decide +kernel
theorem dL_law_1182 : decode cL_law 1182 = .ok (.iload 6, 2) := by decide +kernel
theorem dL_law_1184 : decode cL_law 1184 = .ok (.if_icmp .eq 5, 3) := by decide +kernel
theorem dL_law_1187 : decode cL_law 1187 = .ok (.iconst 0, 1) := by decide +kernel
theorem dL_law_1188 : decode cL_law 1188 = .ok (.ireturn, 1) := by decide +kernel
theorem dL_law_1189 : decode cL_law 1189 = .ok (.iload 6, 2) := by decide +kernel
theorem dL_law_1191 : decode cL_law 1191 = .ok (.ifCond .ne 15, 3) := by decide +kernel
theorem dL_law_1194 : decode cL_law 1194 = .ok (.aload_n 3, 1) := by decide +kernel
theorem dL_law_1195 : decode cL_law 1195 = .ok (.iconst 0, 1) := by decide +kernel
theorem dL_law_1196 : decode cL_law 1196 = .ok (.laload, 1) := by decide +kernel
theorem dL_law_1197 : decode cL_law 1197 = .ok (.iload 7, 2) := by decide +kernel
theorem dL_law_1199 : decode cL_law 1199 = .ok (.i2l, 1) := by decide +kernel
theorem dL_law_1200 : decode cL_law 1200 = .ok (.lcmp, 1) := by decide +kernel
theorem dL_law_1201 : decode cL_law 1201 = .ok (.ifCond .eq 5, 3) := by decide +kernel
theorem dL_law_1204 : decode cL_law 1204 = .ok (.iconst 0, 1) := by decide +kernel
theorem dL_law_1205 : decode cL_law 1205 = .ok (.ireturn, 1) := by decide +kernel
theorem dL_law_1206 : decode cL_law 1206 = .ok (.goto 533, 3) := by decide +kernel
theorem dL_law_1209 : decode cL_law 1209 = .ok (.aload_n 1, 1) := by decide +kernel
theorem dL_law_1210 : decode cL_law 1210 = .ok (.aload_n 0, 1) := by decide +kernel
theorem dL_law_1211 : decode cL_law 1211 = .ok (.iload 5, 2) := by decide +kernel
theorem dL_law_1213 : decode cL_law 1213 = .ok (.iconst 1, 1) := by decide +kernel
theorem dL_law_1214 : decode cL_law 1214 = .ok (.iadd, 1) := by decide +kernel
theorem dL_law_1215 : decode cL_law 1215 = .ok (.iaload, 1) := by decide +kernel
theorem dL_law_1216 : decode cL_law 1216 = .ok (.aload_n 0, 1) := by decide +kernel
theorem dL_law_1217 : decode cL_law 1217 = .ok (.iload 5, 2) := by decide +kernel
theorem dL_law_1219 : decode cL_law 1219 = .ok (.iconst 2, 1) := by decide +kernel
theorem dL_law_1220 : decode cL_law 1220 = .ok (.iadd, 1) := by decide +kernel
theorem dL_law_1221 : decode cL_law 1221 = .ok (.iaload, 1) := by decide +kernel
theorem dL_law_1222 : decode cL_law 1222 = .ok (.ifCond .eq 7, 3) := by decide +kernel
theorem dL_law_1225 : decode cL_law 1225 = .ok (.iconst 1, 1) := by decide +kernel
theorem dL_law_1226 : decode cL_law 1226 = .ok (.goto 4, 3) := by decide +kernel
theorem dL_law_1229 : decode cL_law 1229 = .ok (.iconst 0, 1) := by decide +kernel
theorem dL_law_1230 : decode cL_law 1230 = .ok (.aload_n 0, 1) := by decide +kernel
theorem dL_law_1231 : decode cL_law 1231 = .ok (.iload 5, 2) := by decide +kernel
theorem dL_law_1233 : decode cL_law 1233 = .ok (.iconst 3, 1) := by decide +kernel
theorem dL_law_1234 : decode cL_law 1234 = .ok (.iadd, 1) := by decide +kernel
theorem dL_law_1235 : decode cL_law 1235 = .ok (.iaload, 1) := by decide +kernel
theorem dL_law_1236 : decode cL_law 1236 = .ok (.aload_n 3, 1) := by decide +kernel
theorem dL_law_1237 : decode cL_law 1237 = .ok (.invokestatic 151, 3) := by decide +kernel
theorem dL_law_1240 : decode cL_law 1240 = .ok (.istore 6, 2) := by decide +kernel
theorem dL_law_1242 : decode cL_law 1242 = .ok (.aload_n 2, 1) := by decide +kernel
theorem dL_law_1243 : decode cL_law 1243 = .ok (.aload_n 0, 1) := by decide +kernel
theorem dL_law_1244 : decode cL_law 1244 = .ok (.iload 5, 2) := by decide +kernel
theorem dL_law_1246 : decode cL_law 1246 = .ok (.iconst 1, 1) := by decide +kernel
theorem dL_law_1247 : decode cL_law 1247 = .ok (.iadd, 1) := by decide +kernel
theorem dL_law_1248 : decode cL_law 1248 = .ok (.iaload, 1) := by decide +kernel
theorem dL_law_1249 : decode cL_law 1249 = .ok (.aload_n 0, 1) := by decide +kernel
theorem dL_law_1250 : decode cL_law 1250 = .ok (.iload 5, 2) := by decide +kernel
theorem dL_law_1252 : decode cL_law 1252 = .ok (.iconst 2, 1) := by decide +kernel
theorem dL_law_1253 : decode cL_law 1253 = .ok (.iadd, 1) := by decide +kernel
theorem dL_law_1254 : decode cL_law 1254 = .ok (.iaload, 1) := by decide +kernel
theorem dL_law_1255 : decode cL_law 1255 = .ok (.ifCond .eq 7, 3) := by decide +kernel
theorem dL_law_1258 : decode cL_law 1258 = .ok (.iconst 1, 1) := by decide +kernel
theorem dL_law_1259 : decode cL_law 1259 = .ok (.goto 4, 3) := by decide +kernel
theorem dL_law_1262 : decode cL_law 1262 = .ok (.iconst 0, 1) := by decide +kernel
theorem dL_law_1263 : decode cL_law 1263 = .ok (.aload_n 0, 1) := by decide +kernel
theorem dL_law_1264 : decode cL_law 1264 = .ok (.iload 5, 2) := by decide +kernel
theorem dL_law_1266 : decode cL_law 1266 = .ok (.iconst 3, 1) := by decide +kernel
theorem dL_law_1267 : decode cL_law 1267 = .ok (.iadd, 1) := by decide +kernel
theorem dL_law_1268 : decode cL_law 1268 = .ok (.iaload, 1) := by decide +kernel
theorem dL_law_1269 : decode cL_law 1269 = .ok (.invokevirtual 153, 3) := by decide +kernel
theorem dL_law_1272 : decode cL_law 1272 = .ok (.istore 7, 2) := by decide +kernel
theorem dL_law_1274 : decode cL_law 1274 = .ok (.aload_n 2, 1) := by decide +kernel
theorem dL_law_1275 : decode cL_law 1275 = .ok (.invokevirtual 98, 3) := by decide +kernel
theorem dL_law_1278 : decode cL_law 1278 = .ok (.iload 6, 2) := by decide +kernel
theorem dL_law_1280 : decode cL_law 1280 = .ok (.if_icmp .eq 5, 3) := by decide +kernel
theorem dL_law_1283 : decode cL_law 1283 = .ok (.iconst 0, 1) := by decide +kernel
theorem dL_law_1284 : decode cL_law 1284 = .ok (.ireturn, 1) := by decide +kernel
theorem dL_law_1285 : decode cL_law 1285 = .ok (.iload 6, 2) := by decide +kernel
theorem dL_law_1287 : decode cL_law 1287 = .ok (.ifCond .ne 15, 3) := by decide +kernel
theorem dL_law_1290 : decode cL_law 1290 = .ok (.aload_n 3, 1) := by decide +kernel
theorem dL_law_1291 : decode cL_law 1291 = .ok (.iconst 0, 1) := by decide +kernel
theorem dL_law_1292 : decode cL_law 1292 = .ok (.laload, 1) := by decide +kernel
theorem dL_law_1293 : decode cL_law 1293 = .ok (.iload 7, 2) := by decide +kernel
theorem dL_law_1295 : decode cL_law 1295 = .ok (.i2l, 1) := by decide +kernel
theorem dL_law_1296 : decode cL_law 1296 = .ok (.lcmp, 1) := by decide +kernel
theorem dL_law_1297 : decode cL_law 1297 = .ok (.ifCond .eq 5, 3) := by decide +kernel
theorem dL_law_1300 : decode cL_law 1300 = .ok (.iconst 0, 1) := by decide +kernel
theorem dL_law_1301 : decode cL_law 1301 = .ok (.ireturn, 1) := by decide +kernel
theorem dL_law_1302 : decode cL_law 1302 = .ok (.goto 437, 3) := by decide +kernel
theorem dL_law_1305 : decode cL_law 1305 = .ok (.aload_n 1, 1) := by decide +kernel
theorem dL_law_1306 : decode cL_law 1306 = .ok (.aload_n 0, 1) := by decide +kernel
theorem dL_law_1307 : decode cL_law 1307 = .ok (.iload 5, 2) := by decide +kernel
theorem dL_law_1309 : decode cL_law 1309 = .ok (.iconst 1, 1) := by decide +kernel
theorem dL_law_1310 : decode cL_law 1310 = .ok (.iadd, 1) := by decide +kernel
theorem dL_law_1311 : decode cL_law 1311 = .ok (.iaload, 1) := by decide +kernel
theorem dL_law_1312 : decode cL_law 1312 = .ok (.aload_n 0, 1) := by decide +kernel
theorem dL_law_1313 : decode cL_law 1313 = .ok (.iload 5, 2) := by decide +kernel
theorem dL_law_1315 : decode cL_law 1315 = .ok (.iconst 2, 1) := by decide +kernel
theorem dL_law_1316 : decode cL_law 1316 = .ok (.iadd, 1) := by decide +kernel
theorem dL_law_1317 : decode cL_law 1317 = .ok (.iaload, 1) := by decide +kernel
theorem dL_law_1318 : decode cL_law 1318 = .ok (.ifCond .eq 7, 3) := by decide +kernel
theorem dL_law_1321 : decode cL_law 1321 = .ok (.iconst 1, 1) := by decide +kernel
theorem dL_law_1322 : decode cL_law 1322 = .ok (.goto 4, 3) := by decide +kernel
theorem dL_law_1325 : decode cL_law 1325 = .ok (.iconst 0, 1) := by decide +kernel
theorem dL_law_1326 : decode cL_law 1326 = .ok (.aload_n 0, 1) := by decide +kernel
theorem dL_law_1327 : decode cL_law 1327 = .ok (.iload 5, 2) := by decide +kernel
theorem dL_law_1329 : decode cL_law 1329 = .ok (.iconst 3, 1) := by decide +kernel
theorem dL_law_1330 : decode cL_law 1330 = .ok (.iadd, 1) := by decide +kernel
theorem dL_law_1331 : decode cL_law 1331 = .ok (.iaload, 1) := by decide +kernel
theorem dL_law_1332 : decode cL_law 1332 = .ok (.aload_n 0, 1) := by decide +kernel
theorem dL_law_1333 : decode cL_law 1333 = .ok (.iload 5, 2) := by decide +kernel
theorem dL_law_1335 : decode cL_law 1335 = .ok (.iconst 4, 1) := by decide +kernel
theorem dL_law_1336 : decode cL_law 1336 = .ok (.iadd, 1) := by decide +kernel
theorem dL_law_1337 : decode cL_law 1337 = .ok (.iaload, 1) := by decide +kernel
theorem dL_law_1338 : decode cL_law 1338 = .ok (.aload_n 3, 1) := by decide +kernel
theorem dL_law_1339 : decode cL_law 1339 = .ok (.invokestatic 154, 3) := by decide +kernel
theorem dL_law_1342 : decode cL_law 1342 = .ok (.istore 6, 2) := by decide +kernel
theorem dL_law_1344 : decode cL_law 1344 = .ok (.aload_n 2, 1) := by decide +kernel
theorem dL_law_1345 : decode cL_law 1345 = .ok (.aload_n 0, 1) := by decide +kernel
theorem dL_law_1346 : decode cL_law 1346 = .ok (.iload 5, 2) := by decide +kernel
theorem dL_law_1348 : decode cL_law 1348 = .ok (.iconst 1, 1) := by decide +kernel
theorem dL_law_1349 : decode cL_law 1349 = .ok (.iadd, 1) := by decide +kernel
theorem dL_law_1350 : decode cL_law 1350 = .ok (.iaload, 1) := by decide +kernel
theorem dL_law_1351 : decode cL_law 1351 = .ok (.aload_n 0, 1) := by decide +kernel
theorem dL_law_1352 : decode cL_law 1352 = .ok (.iload 5, 2) := by decide +kernel
theorem dL_law_1354 : decode cL_law 1354 = .ok (.iconst 2, 1) := by decide +kernel
theorem dL_law_1355 : decode cL_law 1355 = .ok (.iadd, 1) := by decide +kernel
theorem dL_law_1356 : decode cL_law 1356 = .ok (.iaload, 1) := by decide +kernel
theorem dL_law_1357 : decode cL_law 1357 = .ok (.ifCond .eq 7, 3) := by decide +kernel
theorem dL_law_1360 : decode cL_law 1360 = .ok (.iconst 1, 1) := by decide +kernel
theorem dL_law_1361 : decode cL_law 1361 = .ok (.goto 4, 3) := by decide +kernel
theorem dL_law_1364 : decode cL_law 1364 = .ok (.iconst 0, 1) := by decide +kernel
theorem dL_law_1365 : decode cL_law 1365 = .ok (.aload_n 0, 1) := by decide +kernel
theorem dL_law_1366 : decode cL_law 1366 = .ok (.iload 5, 2) := by decide +kernel
theorem dL_law_1368 : decode cL_law 1368 = .ok (.iconst 3, 1) := by decide +kernel
theorem dL_law_1369 : decode cL_law 1369 = .ok (.iadd, 1) := by decide +kernel
theorem dL_law_1370 : decode cL_law 1370 = .ok (.iaload, 1) := by decide +kernel
theorem dL_law_1371 : decode cL_law 1371 = .ok (.aload_n 0, 1) := by decide +kernel
theorem dL_law_1372 : decode cL_law 1372 = .ok (.iload 5, 2) := by decide +kernel
theorem dL_law_1374 : decode cL_law 1374 = .ok (.iconst 4, 1) := by decide +kernel
theorem dL_law_1375 : decode cL_law 1375 = .ok (.iadd, 1) := by decide +kernel
theorem dL_law_1376 : decode cL_law 1376 = .ok (.iaload, 1) := by decide +kernel
theorem dL_law_1377 : decode cL_law 1377 = .ok (.invokevirtual 157, 3) := by decide +kernel
theorem dL_law_1380 : decode cL_law 1380 = .ok (.istore 7, 2) := by decide +kernel
theorem dL_law_1382 : decode cL_law 1382 = .ok (.aload_n 2, 1) := by decide +kernel
theorem dL_law_1383 : decode cL_law 1383 = .ok (.invokevirtual 98, 3) := by decide +kernel
theorem dL_law_1386 : decode cL_law 1386 = .ok (.iload 6, 2) := by decide +kernel
theorem dL_law_1388 : decode cL_law 1388 = .ok (.if_icmp .eq 5, 3) := by decide +kernel
theorem dL_law_1391 : decode cL_law 1391 = .ok (.iconst 0, 1) := by decide +kernel
theorem dL_law_1392 : decode cL_law 1392 = .ok (.ireturn, 1) := by decide +kernel
theorem dL_law_1393 : decode cL_law 1393 = .ok (.iload 6, 2) := by decide +kernel
theorem dL_law_1395 : decode cL_law 1395 = .ok (.ifCond .ne 15, 3) := by decide +kernel
theorem dL_law_1398 : decode cL_law 1398 = .ok (.aload_n 3, 1) := by decide +kernel
theorem dL_law_1399 : decode cL_law 1399 = .ok (.iconst 0, 1) := by decide +kernel
theorem dL_law_1400 : decode cL_law 1400 = .ok (.laload, 1) := by decide +kernel
theorem dL_law_1401 : decode cL_law 1401 = .ok (.iload 7, 2) := by decide +kernel
theorem dL_law_1403 : decode cL_law 1403 = .ok (.i2l, 1) := by decide +kernel
theorem dL_law_1404 : decode cL_law 1404 = .ok (.lcmp, 1) := by decide +kernel
theorem dL_law_1405 : decode cL_law 1405 = .ok (.ifCond .eq 5, 3) := by decide +kernel
theorem dL_law_1408 : decode cL_law 1408 = .ok (.iconst 0, 1) := by decide +kernel
theorem dL_law_1409 : decode cL_law 1409 = .ok (.ireturn, 1) := by decide +kernel
theorem dL_law_1410 : decode cL_law 1410 = .ok (.goto 329, 3) := by decide +kernel
theorem dL_law_1413 : decode cL_law 1413 = .ok (.aload_n 1, 1) := by decide +kernel
theorem dL_law_1414 : decode cL_law 1414 = .ok (.aload_n 0, 1) := by decide +kernel
theorem dL_law_1415 : decode cL_law 1415 = .ok (.iload 5, 2) := by decide +kernel
theorem dL_law_1417 : decode cL_law 1417 = .ok (.iconst 1, 1) := by decide +kernel
theorem dL_law_1418 : decode cL_law 1418 = .ok (.iadd, 1) := by decide +kernel
theorem dL_law_1419 : decode cL_law 1419 = .ok (.iaload, 1) := by decide +kernel
theorem dL_law_1420 : decode cL_law 1420 = .ok (.aload_n 0, 1) := by decide +kernel
theorem dL_law_1421 : decode cL_law 1421 = .ok (.iload 5, 2) := by decide +kernel
theorem dL_law_1423 : decode cL_law 1423 = .ok (.iconst 2, 1) := by decide +kernel
theorem dL_law_1424 : decode cL_law 1424 = .ok (.iadd, 1) := by decide +kernel
theorem dL_law_1425 : decode cL_law 1425 = .ok (.iaload, 1) := by decide +kernel
theorem dL_law_1426 : decode cL_law 1426 = .ok (.aload_n 0, 1) := by decide +kernel
theorem dL_law_1427 : decode cL_law 1427 = .ok (.iload 5, 2) := by decide +kernel
theorem dL_law_1429 : decode cL_law 1429 = .ok (.iconst 3, 1) := by decide +kernel
theorem dL_law_1430 : decode cL_law 1430 = .ok (.iadd, 1) := by decide +kernel
theorem dL_law_1431 : decode cL_law 1431 = .ok (.iaload, 1) := by decide +kernel
theorem dL_law_1432 : decode cL_law 1432 = .ok (.aload_n 3, 1) := by decide +kernel
theorem dL_law_1433 : decode cL_law 1433 = .ok (.invokestatic 158, 3) := by decide +kernel
theorem dL_law_1436 : decode cL_law 1436 = .ok (.istore 6, 2) := by decide +kernel
theorem dL_law_1438 : decode cL_law 1438 = .ok (.aload_n 2, 1) := by decide +kernel
theorem dL_law_1439 : decode cL_law 1439 = .ok (.aload_n 0, 1) := by decide +kernel
theorem dL_law_1440 : decode cL_law 1440 = .ok (.iload 5, 2) := by decide +kernel
theorem dL_law_1442 : decode cL_law 1442 = .ok (.iconst 1, 1) := by decide +kernel
theorem dL_law_1443 : decode cL_law 1443 = .ok (.iadd, 1) := by decide +kernel
theorem dL_law_1444 : decode cL_law 1444 = .ok (.iaload, 1) := by decide +kernel
theorem dL_law_1445 : decode cL_law 1445 = .ok (.aload_n 0, 1) := by decide +kernel
theorem dL_law_1446 : decode cL_law 1446 = .ok (.iload 5, 2) := by decide +kernel
theorem dL_law_1448 : decode cL_law 1448 = .ok (.iconst 2, 1) := by decide +kernel
theorem dL_law_1449 : decode cL_law 1449 = .ok (.iadd, 1) := by decide +kernel
theorem dL_law_1450 : decode cL_law 1450 = .ok (.iaload, 1) := by decide +kernel
theorem dL_law_1451 : decode cL_law 1451 = .ok (.aload_n 0, 1) := by decide +kernel
theorem dL_law_1452 : decode cL_law 1452 = .ok (.iload 5, 2) := by decide +kernel
theorem dL_law_1454 : decode cL_law 1454 = .ok (.iconst 3, 1) := by decide +kernel
theorem dL_law_1455 : decode cL_law 1455 = .ok (.iadd, 1) := by decide +kernel
theorem dL_law_1456 : decode cL_law 1456 = .ok (.iaload, 1) := by decide +kernel
theorem dL_law_1457 : decode cL_law 1457 = .ok (.invokevirtual 160, 3) := by decide +kernel
theorem dL_law_1460 : decode cL_law 1460 = .ok (.istore 7, 2) := by decide +kernel
theorem dL_law_1462 : decode cL_law 1462 = .ok (.aload_n 2, 1) := by decide +kernel
theorem dL_law_1463 : decode cL_law 1463 = .ok (.invokevirtual 98, 3) := by decide +kernel
theorem dL_law_1466 : decode cL_law 1466 = .ok (.iload 6, 2) := by decide +kernel
theorem dL_law_1468 : decode cL_law 1468 = .ok (.if_icmp .eq 5, 3) := by decide +kernel
theorem dL_law_1471 : decode cL_law 1471 = .ok (.iconst 0, 1) := by decide +kernel
theorem dL_law_1472 : decode cL_law 1472 = .ok (.ireturn, 1) := by decide +kernel
theorem dL_law_1473 : decode cL_law 1473 = .ok (.iload 6, 2) := by decide +kernel
theorem dL_law_1475 : decode cL_law 1475 = .ok (.ifCond .ne 15, 3) := by decide +kernel
theorem dL_law_1478 : decode cL_law 1478 = .ok (.aload_n 3, 1) := by decide +kernel
theorem dL_law_1479 : decode cL_law 1479 = .ok (.iconst 0, 1) := by decide +kernel
theorem dL_law_1480 : decode cL_law 1480 = .ok (.laload, 1) := by decide +kernel
theorem dL_law_1481 : decode cL_law 1481 = .ok (.iload 7, 2) := by decide +kernel
theorem dL_law_1483 : decode cL_law 1483 = .ok (.i2l, 1) := by decide +kernel
theorem dL_law_1484 : decode cL_law 1484 = .ok (.lcmp, 1) := by decide +kernel
theorem dL_law_1485 : decode cL_law 1485 = .ok (.ifCond .eq 5, 3) := by decide +kernel
theorem dL_law_1488 : decode cL_law 1488 = .ok (.iconst 0, 1) := by decide +kernel
theorem dL_law_1489 : decode cL_law 1489 = .ok (.ireturn, 1) := by decide +kernel
theorem dL_law_1490 : decode cL_law 1490 = .ok (.goto 249, 3) := by decide +kernel
theorem dL_law_1493 : decode cL_law 1493 = .ok (.aload_n 1, 1) := by decide +kernel
theorem dL_law_1494 : decode cL_law 1494 = .ok (.aload_n 0, 1) := by decide +kernel
theorem dL_law_1495 : decode cL_law 1495 = .ok (.iload 5, 2) := by decide +kernel
theorem dL_law_1497 : decode cL_law 1497 = .ok (.iconst 1, 1) := by decide +kernel
theorem dL_law_1498 : decode cL_law 1498 = .ok (.iadd, 1) := by decide +kernel
theorem dL_law_1499 : decode cL_law 1499 = .ok (.iaload, 1) := by decide +kernel
theorem dL_law_1500 : decode cL_law 1500 = .ok (.aload_n 3, 1) := by decide +kernel
theorem dL_law_1501 : decode cL_law 1501 = .ok (.invokestatic 161, 3) := by decide +kernel
theorem dL_law_1504 : decode cL_law 1504 = .ok (.istore 6, 2) := by decide +kernel
theorem dL_law_1506 : decode cL_law 1506 = .ok (.aload_n 2, 1) := by decide +kernel
theorem dL_law_1507 : decode cL_law 1507 = .ok (.aload_n 0, 1) := by decide +kernel
theorem dL_law_1508 : decode cL_law 1508 = .ok (.iload 5, 2) := by decide +kernel
theorem dL_law_1510 : decode cL_law 1510 = .ok (.iconst 1, 1) := by decide +kernel
theorem dL_law_1511 : decode cL_law 1511 = .ok (.iadd, 1) := by decide +kernel
theorem dL_law_1512 : decode cL_law 1512 = .ok (.iaload, 1) := by decide +kernel
theorem dL_law_1513 : decode cL_law 1513 = .ok (.invokevirtual 163, 3) := by decide +kernel
theorem dL_law_1516 : decode cL_law 1516 = .ok (.istore 7, 2) := by decide +kernel
theorem dL_law_1518 : decode cL_law 1518 = .ok (.aload_n 2, 1) := by decide +kernel
theorem dL_law_1519 : decode cL_law 1519 = .ok (.invokevirtual 98, 3) := by decide +kernel
theorem dL_law_1522 : decode cL_law 1522 = .ok (.iload 6, 2) := by decide +kernel
theorem dL_law_1524 : decode cL_law 1524 = .ok (.if_icmp .eq 5, 3) := by decide +kernel
theorem dL_law_1527 : decode cL_law 1527 = .ok (.iconst 0, 1) := by decide +kernel
theorem dL_law_1528 : decode cL_law 1528 = .ok (.ireturn, 1) := by decide +kernel
theorem dL_law_1529 : decode cL_law 1529 = .ok (.iload 6, 2) := by decide +kernel
theorem dL_law_1531 : decode cL_law 1531 = .ok (.ifCond .ne 15, 3) := by decide +kernel
theorem dL_law_1534 : decode cL_law 1534 = .ok (.aload_n 3, 1) := by decide +kernel
theorem dL_law_1535 : decode cL_law 1535 = .ok (.iconst 0, 1) := by decide +kernel
theorem dL_law_1536 : decode cL_law 1536 = .ok (.laload, 1) := by decide +kernel
theorem dL_law_1537 : decode cL_law 1537 = .ok (.iload 7, 2) := by decide +kernel
theorem dL_law_1539 : decode cL_law 1539 = .ok (.i2l, 1) := by decide +kernel
theorem dL_law_1540 : decode cL_law 1540 = .ok (.lcmp, 1) := by decide +kernel
theorem dL_law_1541 : decode cL_law 1541 = .ok (.ifCond .eq 5, 3) := by decide +kernel
theorem dL_law_1544 : decode cL_law 1544 = .ok (.iconst 0, 1) := by decide +kernel
theorem dL_law_1545 : decode cL_law 1545 = .ok (.ireturn, 1) := by decide +kernel
theorem dL_law_1546 : decode cL_law 1546 = .ok (.goto 193, 3) := by decide +kernel
theorem dL_law_1549 : decode cL_law 1549 = .ok (.aload_n 1, 1) := by decide +kernel
theorem dL_law_1550 : decode cL_law 1550 = .ok (.aload_n 0, 1) := by decide +kernel
theorem dL_law_1551 : decode cL_law 1551 = .ok (.iload 5, 2) := by decide +kernel
theorem dL_law_1553 : decode cL_law 1553 = .ok (.iconst 1, 1) := by decide +kernel
theorem dL_law_1554 : decode cL_law 1554 = .ok (.iadd, 1) := by decide +kernel
theorem dL_law_1555 : decode cL_law 1555 = .ok (.iaload, 1) := by decide +kernel
theorem dL_law_1556 : decode cL_law 1556 = .ok (.aload_n 3, 1) := by decide +kernel
theorem dL_law_1557 : decode cL_law 1557 = .ok (.invokestatic 164, 3) := by decide +kernel
theorem dL_law_1560 : decode cL_law 1560 = .ok (.istore 6, 2) := by decide +kernel
theorem dL_law_1562 : decode cL_law 1562 = .ok (.aload_n 2, 1) := by decide +kernel
theorem dL_law_1563 : decode cL_law 1563 = .ok (.aload_n 0, 1) := by decide +kernel
theorem dL_law_1564 : decode cL_law 1564 = .ok (.iload 5, 2) := by decide +kernel
theorem dL_law_1566 : decode cL_law 1566 = .ok (.iconst 1, 1) := by decide +kernel
theorem dL_law_1567 : decode cL_law 1567 = .ok (.iadd, 1) := by decide +kernel
theorem dL_law_1568 : decode cL_law 1568 = .ok (.iaload, 1) := by decide +kernel
theorem dL_law_1569 : decode cL_law 1569 = .ok (.invokevirtual 166, 3) := by decide +kernel
theorem dL_law_1572 : decode cL_law 1572 = .ok (.istore 7, 2) := by decide +kernel
theorem dL_law_1574 : decode cL_law 1574 = .ok (.aload_n 2, 1) := by decide +kernel
theorem dL_law_1575 : decode cL_law 1575 = .ok (.invokevirtual 98, 3) := by decide +kernel
theorem dL_law_1578 : decode cL_law 1578 = .ok (.iload 6, 2) := by decide +kernel
theorem dL_law_1580 : decode cL_law 1580 = .ok (.if_icmp .eq 5, 3) := by decide +kernel
theorem dL_law_1583 : decode cL_law 1583 = .ok (.iconst 0, 1) := by decide +kernel
theorem dL_law_1584 : decode cL_law 1584 = .ok (.ireturn, 1) := by decide +kernel
theorem dL_law_1585 : decode cL_law 1585 = .ok (.iload 6, 2) := by decide +kernel
theorem dL_law_1587 : decode cL_law 1587 = .ok (.ifCond .ne 15, 3) := by decide +kernel
theorem dL_law_1590 : decode cL_law 1590 = .ok (.aload_n 3, 1) := by decide +kernel
theorem dL_law_1591 : decode cL_law 1591 = .ok (.iconst 0, 1) := by decide +kernel
theorem dL_law_1592 : decode cL_law 1592 = .ok (.laload, 1) := by decide +kernel
theorem dL_law_1593 : decode cL_law 1593 = .ok (.iload 7, 2) := by decide +kernel
theorem dL_law_1595 : decode cL_law 1595 = .ok (.i2l, 1) := by decide +kernel
theorem dL_law_1596 : decode cL_law 1596 = .ok (.lcmp, 1) := by decide +kernel
theorem dL_law_1597 : decode cL_law 1597 = .ok (.ifCond .eq 5, 3) := by decide +kernel
theorem dL_law_1600 : decode cL_law 1600 = .ok (.iconst 0, 1) := by decide +kernel
theorem dL_law_1601 : decode cL_law 1601 = .ok (.ireturn, 1) := by decide +kernel
theorem dL_law_1602 : decode cL_law 1602 = .ok (.goto 137, 3) := by decide +kernel
theorem dL_law_1605 : decode cL_law 1605 = .ok (.aload_n 1, 1) := by decide +kernel
theorem dL_law_1606 : decode cL_law 1606 = .ok (.invokevirtual 167, 3) := by decide +kernel
theorem dL_law_1609 : decode cL_law 1609 = .ok (.aload_n 2, 1) := by decide +kernel
theorem dL_law_1610 : decode cL_law 1610 = .ok (.invokevirtual 170, 3) := by decide +kernel
theorem dL_law_1613 : decode cL_law 1613 = .ok (.if_icmp .eq 126, 3) := by decide +kernel
theorem dL_law_1616 : decode cL_law 1616 = .ok (.iconst 0, 1) := by decide +kernel
theorem dL_law_1617 : decode cL_law 1617 = .ok (.ireturn, 1) := by decide +kernel
theorem dL_law_1618 : decode cL_law 1618 = .ok (.aload_n 1, 1) := by decide +kernel
theorem dL_law_1619 : decode cL_law 1619 = .ok (.aload_n 0, 1) := by decide +kernel
theorem dL_law_1620 : decode cL_law 1620 = .ok (.iload 5, 2) := by decide +kernel
theorem dL_law_1622 : decode cL_law 1622 = .ok (.iconst 1, 1) := by decide +kernel
theorem dL_law_1623 : decode cL_law 1623 = .ok (.iadd, 1) := by decide +kernel
theorem dL_law_1624 : decode cL_law 1624 = .ok (.iaload, 1) := by decide +kernel
theorem dL_law_1625 : decode cL_law 1625 = .ok (.aload 4, 2) := by decide +kernel
theorem dL_law_1627 : decode cL_law 1627 = .ok (.invokestatic 171, 3) := by decide +kernel
theorem dL_law_1630 : decode cL_law 1630 = .ok (.istore 6, 2) := by decide +kernel
theorem dL_law_1632 : decode cL_law 1632 = .ok (.aload_n 2, 1) := by decide +kernel
theorem dL_law_1633 : decode cL_law 1633 = .ok (.aload_n 0, 1) := by decide +kernel
theorem dL_law_1634 : decode cL_law 1634 = .ok (.iload 5, 2) := by decide +kernel
theorem dL_law_1636 : decode cL_law 1636 = .ok (.iconst 1, 1) := by decide +kernel
theorem dL_law_1637 : decode cL_law 1637 = .ok (.iadd, 1) := by decide +kernel
theorem dL_law_1638 : decode cL_law 1638 = .ok (.iaload, 1) := by decide +kernel
theorem dL_law_1639 : decode cL_law 1639 = .ok (.invokevirtual 174, 3) := by decide +kernel
theorem dL_law_1642 : decode cL_law 1642 = .ok (.dstore 7, 2) := by decide +kernel
theorem dL_law_1644 : decode cL_law 1644 = .ok (.aload_n 2, 1) := by decide +kernel
theorem dL_law_1645 : decode cL_law 1645 = .ok (.invokevirtual 98, 3) := by decide +kernel
theorem dL_law_1648 : decode cL_law 1648 = .ok (.iload 6, 2) := by decide +kernel
theorem dL_law_1650 : decode cL_law 1650 = .ok (.if_icmp .eq 5, 3) := by decide +kernel
theorem dL_law_1653 : decode cL_law 1653 = .ok (.iconst 0, 1) := by decide +kernel
theorem dL_law_1654 : decode cL_law 1654 = .ok (.ireturn, 1) := by decide +kernel
theorem dL_law_1655 : decode cL_law 1655 = .ok (.iload 6, 2) := by decide +kernel
theorem dL_law_1657 : decode cL_law 1657 = .ok (.ifCond .ne 35, 3) := by decide +kernel
theorem dL_law_1660 : decode cL_law 1660 = .ok (.aload 4, 2) := by decide +kernel
theorem dL_law_1662 : decode cL_law 1662 = .ok (.iconst 0, 1) := by decide +kernel
theorem dL_law_1663 : decode cL_law 1663 = .ok (.daload, 1) := by decide +kernel
theorem dL_law_1664 : decode cL_law 1664 = .ok (.dload 7, 2) := by decide +kernel
theorem dL_law_1666 : decode cL_law 1666 = .ok (.dcmp .l, 1) := by decide +kernel
theorem dL_law_1667 : decode cL_law 1667 = .ok (.ifCond .eq 25, 3) := by decide +kernel
theorem dL_law_1670 : decode cL_law 1670 = .ok (.aload 4, 2) := by decide +kernel
theorem dL_law_1672 : decode cL_law 1672 = .ok (.iconst 0, 1) := by decide +kernel
theorem dL_law_1673 : decode cL_law 1673 = .ok (.daload, 1) := by decide +kernel
theorem dL_law_1674 : decode cL_law 1674 = .ok (.aload 4, 2) := by decide +kernel
theorem dL_law_1676 : decode cL_law 1676 = .ok (.iconst 0, 1) := by decide +kernel
theorem dL_law_1677 : decode cL_law 1677 = .ok (.daload, 1) := by decide +kernel
theorem dL_law_1678 : decode cL_law 1678 = .ok (.dcmp .l, 1) := by decide +kernel
theorem dL_law_1679 : decode cL_law 1679 = .ok (.ifCond .eq 11, 3) := by decide +kernel
theorem dL_law_1682 : decode cL_law 1682 = .ok (.dload 7, 2) := by decide +kernel
theorem dL_law_1684 : decode cL_law 1684 = .ok (.dload 7, 2) := by decide +kernel
theorem dL_law_1686 : decode cL_law 1686 = .ok (.dcmp .l, 1) := by decide +kernel
theorem dL_law_1687 : decode cL_law 1687 = .ok (.ifCond .ne 5, 3) := by decide +kernel
theorem dL_law_1690 : decode cL_law 1690 = .ok (.iconst 0, 1) := by decide +kernel
theorem dL_law_1691 : decode cL_law 1691 = .ok (.ireturn, 1) := by decide +kernel
theorem dL_law_1692 : decode cL_law 1692 = .ok (.goto 47, 3) := by decide +kernel
theorem dL_law_1695 : decode cL_law 1695 = .ok (.aload_n 1, 1) := by decide +kernel
theorem dL_law_1696 : decode cL_law 1696 = .ok (.aload_n 3, 1) := by decide +kernel
theorem dL_law_1697 : decode cL_law 1697 = .ok (.invokestatic 175, 3) := by decide +kernel
theorem dL_law_1700 : decode cL_law 1700 = .ok (.istore 6, 2) := by decide +kernel
theorem dL_law_1702 : decode cL_law 1702 = .ok (.aload_n 2, 1) := by decide +kernel
theorem dL_law_1703 : decode cL_law 1703 = .ok (.invokevirtual 177, 3) := by decide +kernel
theorem dL_law_1706 : decode cL_law 1706 = .ok (.istore 7, 2) := by decide +kernel
theorem dL_law_1708 : decode cL_law 1708 = .ok (.aload_n 2, 1) := by decide +kernel
theorem dL_law_1709 : decode cL_law 1709 = .ok (.invokevirtual 98, 3) := by decide +kernel
theorem dL_law_1712 : decode cL_law 1712 = .ok (.iload 6, 2) := by decide +kernel
theorem dL_law_1714 : decode cL_law 1714 = .ok (.if_icmp .eq 5, 3) := by decide +kernel
theorem dL_law_1717 : decode cL_law 1717 = .ok (.iconst 0, 1) := by decide +kernel
theorem dL_law_1718 : decode cL_law 1718 = .ok (.ireturn, 1) := by decide +kernel
theorem dL_law_1719 : decode cL_law 1719 = .ok (.iload 6, 2) := by decide +kernel
theorem dL_law_1721 : decode cL_law 1721 = .ok (.ifCond .ne 15, 3) := by decide +kernel
theorem dL_law_1724 : decode cL_law 1724 = .ok (.aload_n 3, 1) := by decide +kernel
theorem dL_law_1725 : decode cL_law 1725 = .ok (.iconst 0, 1) := by decide +kernel
theorem dL_law_1726 : decode cL_law 1726 = .ok (.laload, 1) := by decide +kernel
theorem dL_law_1727 : decode cL_law 1727 = .ok (.iload 7, 2) := by decide +kernel
theorem dL_law_1729 : decode cL_law 1729 = .ok (.i2l, 1) := by decide +kernel
theorem dL_law_1730 : decode cL_law 1730 = .ok (.lcmp, 1) := by decide +kernel
theorem dL_law_1731 : decode cL_law 1731 = .ok (.ifCond .eq 5, 3) := by decide +kernel
theorem dL_law_1734 : decode cL_law 1734 = .ok (.iconst 0, 1) := by decide +kernel
theorem dL_law_1735 : decode cL_law 1735 = .ok (.ireturn, 1) := by decide +kernel
theorem dL_law_1736 : decode cL_law 1736 = .ok (.goto 3, 3) := by decide +kernel
theorem dL_law_1739 : decode cL_law 1739 = .ok (.iinc 5 5, 3) := by decide +kernel
theorem dL_law_1742 : decode cL_law 1742 = .ok (.goto (-1714), 3) := by decide +kernel
theorem dL_law_1745 : decode cL_law 1745 = .ok (.iconst 1, 1) := by decide +kernel
theorem dL_law_1746 : decode cL_law 1746 = .ok (.ireturn, 1) := by decide +kernel

/-! THE LAW'S WRAPPERS, outcome by outcome (by program: wip/whole/gen/genlw.py). -/
theorem zLout (k : Nat) (M : ZM) (v : Int64) : zg (zok (zKs k) (zln k) 126 12 (0 : Int32)) (zl (zsJ M 126 (0 : Int32).toNatClampNeg v) fun M7 => some ((0 : Int32), M7)) = some ((0 : Int32), zsJ M 126 0 v) := by
  rw [zgokL (i := 0) (n := 0) rfl (k126 k) (l126 k) (by decide) (by decide), zlS, zcl0]
theorem zLoutD (k : Nat) (M : ZM) (v : UInt64) : zg (zok (zKs k) (zln k) 127 17 (0 : Int32)) (zl (zsD M 127 (0 : Int32).toNatClampNeg v) fun M7 => some ((0 : Int32), M7)) = some ((0 : Int32), zsD M 127 0 v) := by
  rw [zgokL (i := 0) (n := 0) rfl (k127 k) (l127 k) (by decide) (by decide), zlS, zcl0]
section LW
variable {N k : Nat} {M M4 : ZM}
theorem L_addWord_ok {x1 : Int32} {x2 : Int32} {v : Int32} (e : f_X6_addWord N (zKs k) (zln k) 0 x1 x2 M = some (Sum.inr v, M4)) : f_L_addWord N (zKs k) (zln k) 0 x1 x2 126 M = some ((0 : Int32), zsJ M4 126 0 v.toInt64) := by
  unfold f_L_addWord
  rw [zgK (k0 k), zbpS e]
  exact zLout k M4 v.toInt64
theorem L_addWord_1 {x1 : Int32} {x2 : Int32} (e : f_X6_addWord N (zKs k) (zln k) 0 x1 x2 M = some (Sum.inl 1, M4)) : f_L_addWord N (zKs k) (zln k) 0 x1 x2 126 M = some ((1 : Int32), M4) := by
  unfold f_L_addWord
  rw [zgK (k0 k), zbpS e]
  rfl
theorem L_addWord_2 {x1 : Int32} {x2 : Int32} (e : f_X6_addWord N (zKs k) (zln k) 0 x1 x2 M = some (Sum.inl 2, M4)) : f_L_addWord N (zKs k) (zln k) 0 x1 x2 126 M = some ((2 : Int32), M4) := by
  unfold f_L_addWord
  rw [zgK (k0 k), zbpS e]
  rfl
theorem L_addWord_3 {x1 : Int32} {x2 : Int32} (e : f_X6_addWord N (zKs k) (zln k) 0 x1 x2 M = some (Sum.inl 3, M4)) : f_L_addWord N (zKs k) (zln k) 0 x1 x2 126 M = some ((3 : Int32), M4) := by
  unfold f_L_addWord
  rw [zgK (k0 k), zbpS e]
  rfl
theorem L_words_ok {x1 : Int32} {v : Int32} (e : f_X6_words N (zKs k) (zln k) 0 x1 M = some (Sum.inr v)) : f_L_words N (zKs k) (zln k) 0 x1 126 M = some ((0 : Int32), zsJ M 126 0 v.toInt64) := by
  unfold f_L_words
  rw [zgK (k0 k), zbindS e]
  exact zLout k M v.toInt64
theorem L_words_1 {x1 : Int32} (e : f_X6_words N (zKs k) (zln k) 0 x1 M = some (Sum.inl 1)) : f_L_words N (zKs k) (zln k) 0 x1 126 M = some ((1 : Int32), M) := by
  unfold f_L_words
  rw [zgK (k0 k), zbindS e]
  rfl
theorem L_kind_ok {x1 : Int32} {x2 : Int32} {v : Int32} (e : f_X6_kind N (zKs k) (zln k) 0 x1 x2 M = some (Sum.inr v)) : f_L_kind N (zKs k) (zln k) 0 x1 x2 126 M = some ((0 : Int32), zsJ M 126 0 v.toInt64) := by
  unfold f_L_kind
  rw [zgK (k0 k), zbindS e]
  exact zLout k M v.toInt64
theorem L_kind_1 {x1 : Int32} {x2 : Int32} (e : f_X6_kind N (zKs k) (zln k) 0 x1 x2 M = some (Sum.inl 1)) : f_L_kind N (zKs k) (zln k) 0 x1 x2 126 M = some ((1 : Int32), M) := by
  unfold f_L_kind
  rw [zgK (k0 k), zbindS e]
  rfl
theorem L_setWeight_ok {x1 : Int32} {x2 : Int32} {v : Int32} (e : f_X6_setWeight N (zKs k) (zln k) 0 x1 x2 M = some (Sum.inr v, M4)) : f_L_setWeight N (zKs k) (zln k) 0 x1 x2 126 M = some ((0 : Int32), zsJ M4 126 0 v.toInt64) := by
  unfold f_L_setWeight
  rw [zgK (k0 k), zbpS e]
  exact zLout k M4 v.toInt64
theorem L_setWeight_1 {x1 : Int32} {x2 : Int32} (e : f_X6_setWeight N (zKs k) (zln k) 0 x1 x2 M = some (Sum.inl 1, M4)) : f_L_setWeight N (zKs k) (zln k) 0 x1 x2 126 M = some ((1 : Int32), M4) := by
  unfold f_L_setWeight
  rw [zgK (k0 k), zbpS e]
  rfl
theorem L_setWeight_2 {x1 : Int32} {x2 : Int32} (e : f_X6_setWeight N (zKs k) (zln k) 0 x1 x2 M = some (Sum.inl 2, M4)) : f_L_setWeight N (zKs k) (zln k) 0 x1 x2 126 M = some ((2 : Int32), M4) := by
  unfold f_L_setWeight
  rw [zgK (k0 k), zbpS e]
  rfl
theorem L_weight_ok {x1 : Int32} {v : Int32} (e : f_X6_weight N (zKs k) (zln k) 0 x1 M = some (Sum.inr v)) : f_L_weight N (zKs k) (zln k) 0 x1 126 M = some ((0 : Int32), zsJ M 126 0 v.toInt64) := by
  unfold f_L_weight
  rw [zgK (k0 k), zbindS e]
  exact zLout k M v.toInt64
theorem L_weight_1 {x1 : Int32} (e : f_X6_weight N (zKs k) (zln k) 0 x1 M = some (Sum.inl 1)) : f_L_weight N (zKs k) (zln k) 0 x1 126 M = some ((1 : Int32), M) := by
  unfold f_L_weight
  rw [zgK (k0 k), zbindS e]
  rfl
theorem L_feature_ok {x1 : Int32} {x2 : Int32} {x3 : Int32} {x4 : Int32} {v : Int32} (e : f_X6_feature N (zKs k) (zln k) 0 x1 x2 x3 x4 M = some (Sum.inr v)) : f_L_feature N (zKs k) (zln k) 0 x1 x2 x3 x4 126 M = some ((0 : Int32), zsJ M 126 0 v.toInt64) := by
  unfold f_L_feature
  rw [zgK (k0 k), zbindS e]
  exact zLout k M v.toInt64
theorem L_feature_1 {x1 : Int32} {x2 : Int32} {x3 : Int32} {x4 : Int32} (e : f_X6_feature N (zKs k) (zln k) 0 x1 x2 x3 x4 M = some (Sum.inl 1)) : f_L_feature N (zKs k) (zln k) 0 x1 x2 x3 x4 126 M = some ((1 : Int32), M) := by
  unfold f_L_feature
  rw [zgK (k0 k), zbindS e]
  rfl
theorem L_feature_2 {x1 : Int32} {x2 : Int32} {x3 : Int32} {x4 : Int32} (e : f_X6_feature N (zKs k) (zln k) 0 x1 x2 x3 x4 M = some (Sum.inl 2)) : f_L_feature N (zKs k) (zln k) 0 x1 x2 x3 x4 126 M = some ((2 : Int32), M) := by
  unfold f_L_feature
  rw [zgK (k0 k), zbindS e]
  rfl
theorem L_score_ok {x1 : Int32} {x2 : Int32} {x3 : Int32} {v : Int32} (e : f_X6_score N (zKs k) (zln k) 0 x1 x2 x3 M = some (Sum.inr v)) : f_L_score N (zKs k) (zln k) 0 x1 x2 x3 126 M = some ((0 : Int32), zsJ M 126 0 v.toInt64) := by
  unfold f_L_score
  rw [zgK (k0 k), zbindS e]
  exact zLout k M v.toInt64
theorem L_score_1 {x1 : Int32} {x2 : Int32} {x3 : Int32} (e : f_X6_score N (zKs k) (zln k) 0 x1 x2 x3 M = some (Sum.inl 1)) : f_L_score N (zKs k) (zln k) 0 x1 x2 x3 126 M = some ((1 : Int32), M) := by
  unfold f_L_score
  rw [zgK (k0 k), zbindS e]
  rfl
theorem L_score_2 {x1 : Int32} {x2 : Int32} {x3 : Int32} (e : f_X6_score N (zKs k) (zln k) 0 x1 x2 x3 M = some (Sum.inl 2)) : f_L_score N (zKs k) (zln k) 0 x1 x2 x3 126 M = some ((2 : Int32), M) := by
  unfold f_L_score
  rw [zgK (k0 k), zbindS e]
  rfl
theorem L_mark_ok {x1 : Int32} {x2 : Int32} {x3 : Int32} {x4 : Int32} {v : Int32} (e : f_X6_mark N (zKs k) (zln k) 0 x1 x2 x3 x4 M = some (Sum.inr v, M4)) : f_L_mark N (zKs k) (zln k) 0 x1 x2 x3 x4 126 M = some ((0 : Int32), zsJ M4 126 0 v.toInt64) := by
  unfold f_L_mark
  rw [zgK (k0 k), zbpS e]
  exact zLout k M4 v.toInt64
theorem L_mark_1 {x1 : Int32} {x2 : Int32} {x3 : Int32} {x4 : Int32} (e : f_X6_mark N (zKs k) (zln k) 0 x1 x2 x3 x4 M = some (Sum.inl 1, M4)) : f_L_mark N (zKs k) (zln k) 0 x1 x2 x3 x4 126 M = some ((1 : Int32), M4) := by
  unfold f_L_mark
  rw [zgK (k0 k), zbpS e]
  rfl
theorem L_mark_2 {x1 : Int32} {x2 : Int32} {x3 : Int32} {x4 : Int32} (e : f_X6_mark N (zKs k) (zln k) 0 x1 x2 x3 x4 M = some (Sum.inl 2, M4)) : f_L_mark N (zKs k) (zln k) 0 x1 x2 x3 x4 126 M = some ((2 : Int32), M4) := by
  unfold f_L_mark
  rw [zgK (k0 k), zbpS e]
  rfl
theorem L_mark_3 {x1 : Int32} {x2 : Int32} {x3 : Int32} {x4 : Int32} (e : f_X6_mark N (zKs k) (zln k) 0 x1 x2 x3 x4 M = some (Sum.inl 3, M4)) : f_L_mark N (zKs k) (zln k) 0 x1 x2 x3 x4 126 M = some ((3 : Int32), M4) := by
  unfold f_L_mark
  rw [zgK (k0 k), zbpS e]
  rfl
theorem L_trees_ok {x1 : Int32} {x2 : Int32} {v : Int32} (e : f_X6_trees N (zKs k) (zln k) 0 x1 x2 M = some (Sum.inr v, M4)) : f_L_trees N (zKs k) (zln k) 0 x1 x2 126 M = some ((0 : Int32), zsJ M4 126 0 v.toInt64) := by
  unfold f_L_trees
  rw [zgK (k0 k), zbpS e]
  exact zLout k M4 v.toInt64
theorem L_trees_1 {x1 : Int32} {x2 : Int32} (e : f_X6_trees N (zKs k) (zln k) 0 x1 x2 M = some (Sum.inl 1, M4)) : f_L_trees N (zKs k) (zln k) 0 x1 x2 126 M = some ((1 : Int32), M4) := by
  unfold f_L_trees
  rw [zgK (k0 k), zbpS e]
  rfl
theorem L_best_ok {x1 : Int32} {x2 : Int32} {v : Int32} (e : f_X6_best N (zKs k) (zln k) 0 x1 x2 M = some (Sum.inr v, M4)) : f_L_best N (zKs k) (zln k) 0 x1 x2 126 M = some ((0 : Int32), zsJ M4 126 0 v.toInt64) := by
  unfold f_L_best
  rw [zgK (k0 k), zbpS e]
  exact zLout k M4 v.toInt64
theorem L_best_1 {x1 : Int32} {x2 : Int32} (e : f_X6_best N (zKs k) (zln k) 0 x1 x2 M = some (Sum.inl 1, M4)) : f_L_best N (zKs k) (zln k) 0 x1 x2 126 M = some ((1 : Int32), M4) := by
  unfold f_L_best
  rw [zgK (k0 k), zbpS e]
  rfl
theorem L_best_3 {x1 : Int32} {x2 : Int32} (e : f_X6_best N (zKs k) (zln k) 0 x1 x2 M = some (Sum.inl 3, M4)) : f_L_best N (zKs k) (zln k) 0 x1 x2 126 M = some ((2 : Int32), M4) := by
  unfold f_L_best
  rw [zgK (k0 k), zbpS e]
  rfl
theorem L_bestByTrying_ok {x1 : Int32} {x2 : Int32} {v : Int32} (e : f_X6_bestByTrying N (zKs k) (zln k) 0 x1 x2 M = some (Sum.inr v, M4)) : f_L_bestByTrying N (zKs k) (zln k) 0 x1 x2 126 M = some ((0 : Int32), zsJ M4 126 0 v.toInt64) := by
  unfold f_L_bestByTrying
  rw [zgK (k0 k), zbpS e]
  exact zLout k M4 v.toInt64
theorem L_bestByTrying_1 {x1 : Int32} {x2 : Int32} (e : f_X6_bestByTrying N (zKs k) (zln k) 0 x1 x2 M = some (Sum.inl 1, M4)) : f_L_bestByTrying N (zKs k) (zln k) 0 x1 x2 126 M = some ((1 : Int32), M4) := by
  unfold f_L_bestByTrying
  rw [zgK (k0 k), zbpS e]
  rfl
theorem L_bestByTrying_3 {x1 : Int32} {x2 : Int32} (e : f_X6_bestByTrying N (zKs k) (zln k) 0 x1 x2 M = some (Sum.inl 3, M4)) : f_L_bestByTrying N (zKs k) (zln k) 0 x1 x2 126 M = some ((2 : Int32), M4) := by
  unfold f_L_bestByTrying
  rw [zgK (k0 k), zbpS e]
  rfl
theorem L_head_ok {x1 : Int32} {x2 : Int32} {x3 : Int32} {v : Int32} (e : f_X6_head N (zKs k) (zln k) 0 x1 x2 x3 M = some (Sum.inr v, M4)) : f_L_head N (zKs k) (zln k) 0 x1 x2 x3 126 M = some ((0 : Int32), zsJ M4 126 0 v.toInt64) := by
  unfold f_L_head
  rw [zgK (k0 k), zbpS e]
  exact zLout k M4 v.toInt64
theorem L_head_1 {x1 : Int32} {x2 : Int32} {x3 : Int32} (e : f_X6_head N (zKs k) (zln k) 0 x1 x2 x3 M = some (Sum.inl 1, M4)) : f_L_head N (zKs k) (zln k) 0 x1 x2 x3 126 M = some ((1 : Int32), M4) := by
  unfold f_L_head
  rw [zgK (k0 k), zbpS e]
  rfl
theorem L_head_3 {x1 : Int32} {x2 : Int32} {x3 : Int32} (e : f_X6_head N (zKs k) (zln k) 0 x1 x2 x3 M = some (Sum.inl 3, M4)) : f_L_head N (zKs k) (zln k) 0 x1 x2 x3 126 M = some ((2 : Int32), M4) := by
  unfold f_L_head
  rw [zgK (k0 k), zbpS e]
  rfl
theorem L_crossings_ok {x1 : Int32} {v : Int32} (e : f_X6_crossings N (zKs k) (zln k) 0 x1 M = some (Sum.inr v, M4)) : f_L_crossings N (zKs k) (zln k) 0 x1 126 M = some ((0 : Int32), zsJ M4 126 0 v.toInt64) := by
  unfold f_L_crossings
  rw [zgK (k0 k), zbpS e]
  exact zLout k M4 v.toInt64
theorem L_crossings_1 {x1 : Int32} (e : f_X6_crossings N (zKs k) (zln k) 0 x1 M = some (Sum.inl 1, M4)) : f_L_crossings N (zKs k) (zln k) 0 x1 126 M = some ((1 : Int32), M4) := by
  unfold f_L_crossings
  rw [zgK (k0 k), zbpS e]
  rfl
theorem L_crossings_3 {x1 : Int32} (e : f_X6_crossings N (zKs k) (zln k) 0 x1 M = some (Sum.inl 3, M4)) : f_L_crossings N (zKs k) (zln k) 0 x1 126 M = some ((2 : Int32), M4) := by
  unfold f_L_crossings
  rw [zgK (k0 k), zbpS e]
  rfl
theorem L_ranked_ok {x1 : Int32} {x2 : Int32} {x3 : Int32} {v : Int32} (e : f_X6_ranked N (zKs k) (zln k) 0 x1 x2 x3 M = some (Sum.inr v, M4)) : f_L_ranked N (zKs k) (zln k) 0 x1 x2 x3 126 M = some ((0 : Int32), zsJ M4 126 0 v.toInt64) := by
  unfold f_L_ranked
  rw [zgK (k0 k), zbpS e]
  exact zLout k M4 v.toInt64
theorem L_ranked_1 {x1 : Int32} {x2 : Int32} {x3 : Int32} (e : f_X6_ranked N (zKs k) (zln k) 0 x1 x2 x3 M = some (Sum.inl 1, M4)) : f_L_ranked N (zKs k) (zln k) 0 x1 x2 x3 126 M = some ((1 : Int32), M4) := by
  unfold f_L_ranked
  rw [zgK (k0 k), zbpS e]
  rfl
theorem L_rankedHead_ok {x1 : Int32} {x2 : Int32} {x3 : Int32} {x4 : Int32} {v : Int32} (e : f_X6_rankedHead N (zKs k) (zln k) 0 x1 x2 x3 x4 M = some (Sum.inr v, M4)) : f_L_rankedHead N (zKs k) (zln k) 0 x1 x2 x3 x4 126 M = some ((0 : Int32), zsJ M4 126 0 v.toInt64) := by
  unfold f_L_rankedHead
  rw [zgK (k0 k), zbpS e]
  exact zLout k M4 v.toInt64
theorem L_rankedHead_1 {x1 : Int32} {x2 : Int32} {x3 : Int32} {x4 : Int32} (e : f_X6_rankedHead N (zKs k) (zln k) 0 x1 x2 x3 x4 M = some (Sum.inl 1, M4)) : f_L_rankedHead N (zKs k) (zln k) 0 x1 x2 x3 x4 126 M = some ((1 : Int32), M4) := by
  unfold f_L_rankedHead
  rw [zgK (k0 k), zbpS e]
  rfl
theorem L_correct_ok {x1 : Int32} {x2 : Int32} {x3 : Int32} {v : Int32} (e : f_X6_correct N (zKs k) (zln k) 0 x1 x2 x3 M = some (Sum.inr v, M4)) : f_L_correct N (zKs k) (zln k) 0 x1 x2 x3 126 M = some ((0 : Int32), zsJ M4 126 0 v.toInt64) := by
  unfold f_L_correct
  rw [zgK (k0 k), zbpS e]
  exact zLout k M4 v.toInt64
theorem L_correct_1 {x1 : Int32} {x2 : Int32} {x3 : Int32} (e : f_X6_correct N (zKs k) (zln k) 0 x1 x2 x3 M = some (Sum.inl 1, M4)) : f_L_correct N (zKs k) (zln k) 0 x1 x2 x3 126 M = some ((1 : Int32), M4) := by
  unfold f_L_correct
  rw [zgK (k0 k), zbpS e]
  rfl
theorem L_correct_2 {x1 : Int32} {x2 : Int32} {x3 : Int32} (e : f_X6_correct N (zKs k) (zln k) 0 x1 x2 x3 M = some (Sum.inl 2, M4)) : f_L_correct N (zKs k) (zln k) 0 x1 x2 x3 126 M = some ((2 : Int32), M4) := by
  unfold f_L_correct
  rw [zgK (k0 k), zbpS e]
  rfl
theorem L_matched_ok {x1 : Int32} {v : Int32} (e : f_X6_matched N (zKs k) (zln k) 0 x1 M = some (Sum.inr v, M4)) : f_L_matched N (zKs k) (zln k) 0 x1 126 M = some ((0 : Int32), zsJ M4 126 0 v.toInt64) := by
  unfold f_L_matched
  rw [zgK (k0 k), zbpS e]
  exact zLout k M4 v.toInt64
theorem L_matched_1 {x1 : Int32} (e : f_X6_matched N (zKs k) (zln k) 0 x1 M = some (Sum.inl 1, M4)) : f_L_matched N (zKs k) (zln k) 0 x1 126 M = some ((1 : Int32), M4) := by
  unfold f_L_matched
  rw [zgK (k0 k), zbpS e]
  rfl
theorem L_matched_3 {x1 : Int32} (e : f_X6_matched N (zKs k) (zln k) 0 x1 M = some (Sum.inl 3, M4)) : f_L_matched N (zKs k) (zln k) 0 x1 126 M = some ((2 : Int32), M4) := by
  unfold f_L_matched
  rw [zgK (k0 k), zbpS e]
  rfl
theorem L_mend_ok {x1 : Int32} {v : Int32} (e : f_X6_mend N (zKs k) (zln k) 0 x1 M = some (Sum.inr v, M4)) : f_L_mend N (zKs k) (zln k) 0 x1 126 M = some ((0 : Int32), zsJ M4 126 0 v.toInt64) := by
  unfold f_L_mend
  rw [zgK (k0 k), zbpS e]
  exact zLout k M4 v.toInt64
theorem L_mend_1 {x1 : Int32} (e : f_X6_mend N (zKs k) (zln k) 0 x1 M = some (Sum.inl 1, M4)) : f_L_mend N (zKs k) (zln k) 0 x1 126 M = some ((1 : Int32), M4) := by
  unfold f_L_mend
  rw [zgK (k0 k), zbpS e]
  rfl
theorem L_mend_3 {x1 : Int32} (e : f_X6_mend N (zKs k) (zln k) 0 x1 M = some (Sum.inl 3, M4)) : f_L_mend N (zKs k) (zln k) 0 x1 126 M = some ((2 : Int32), M4) := by
  unfold f_L_mend
  rw [zgK (k0 k), zbpS e]
  rfl
theorem L_average_ok {x1 : Int32} {v : UInt64} (e : f_X6_average N (zKs k) (zln k) 0 x1 M = some (Sum.inr v)) : f_L_average N (zKs k) (zln k) 0 x1 127 M = some ((0 : Int32), zsD M 127 0 v) := by
  unfold f_L_average
  rw [zgK (k0 k), zbindS e]
  exact zLoutD k M v
theorem L_average_1 {x1 : Int32} (e : f_X6_average N (zKs k) (zln k) 0 x1 M = some (Sum.inl 1)) : f_L_average N (zKs k) (zln k) 0 x1 127 M = some ((1 : Int32), M) := by
  unfold f_L_average
  rw [zgK (k0 k), zbindS e]
  rfl
theorem L_rollBack_ok {v : Int32} (e : f_X6_rollBack N (zKs k) (zln k) 0 M = some (Sum.inr v, M4)) : f_L_rollBack N (zKs k) (zln k) 0 126 M = some ((0 : Int32), zsJ M4 126 0 v.toInt64) := by
  unfold f_L_rollBack
  rw [zgK (k0 k), zbpS e]
  exact zLout k M4 v.toInt64
theorem L_rollBack_3 (e : f_X6_rollBack N (zKs k) (zln k) 0 M = some (Sum.inl 3, M4)) : f_L_rollBack N (zKs k) (zln k) 0 126 M = some ((1 : Int32), M4) := by
  unfold f_L_rollBack
  rw [zgK (k0 k), zbpS e]
  rfl
end LW

/-! THE WORDS OF THE LAW'S METHODS (by program: wip/p26/gen/goods.py). Each has its own code's word and all of wsL_law. -/
set_option maxRecDepth 100000 in
theorem wsL_law_good : ∀ w ∈ wsL_law, goodWord w = true := List.all_eq_true.mp (by decide +kernel)
theorem wsL_r22_in : ∀ w ∈ wsL_law0_r22, w ∈ wsL_law := fun w h => List.mem_append_left _ (List.mem_append_left _ (List.mem_append_left _ (List.mem_append_left _ (List.mem_append_left _ (List.mem_append_left _ (List.mem_append_left _ (List.mem_append_left _ (List.mem_append_left _ (List.mem_append_left _ (List.mem_append_left _ (List.mem_append_right _ (List.mem_append_right _ (List.mem_append_right _ (List.mem_append_right _ (List.mem_append_right _ (List.mem_append_right _ (List.mem_append_right _ (List.mem_append_right _ (List.mem_append_right _ (List.mem_append_right _ (List.mem_append_right _ (List.mem_append_right _ (List.mem_append_right _ (List.mem_append_right _ (List.mem_append_right _ (List.mem_append_right _ (List.mem_append_right _ (List.mem_append_right _ (List.mem_append_right _ (List.mem_append_right _ (List.mem_append_right _ (h))))))))))))))))))))))))))))))))
theorem gM_cls {big : List Cond} (hb : ∀ w ∈ wsL_law, w ∈ big) {idx : Nat} {y : MethodName} {ws : List Cond} (h4 : ([.methodLink RL idx y, .instanceMethod y, .selects RX6 y y, .initialized RX6] : List Cond).all (fun w => decide (w ∈ wsL_law)) = true) (hw : ∀ w ∈ ws, w ∈ wsL_law) : GoodIn big (wsV RL idx RX6 y ws) := fun w h =>
  have m : w ∈ wsL_law := (List.mem_append.mp h).elim (fun q => of_decide_eq_true (List.all_eq_true.mp h4 w q)) (hw w)
  ⟨hb w m, good_of_word (wsL_law_good w m)⟩
theorem gM_law {big : List Cond} (hb : ∀ w ∈ wsL_law, w ∈ big) {idx : Nat} {y : MethodName} {cb : Cond} (h3 : ([.methodLink RL idx y, .static y, .initialized y.cls] : List Cond).all (fun w => decide (w ∈ wsL_law)) = true) (hc : cb ∈ wsL_law) : GoodIn big (va_wsS RL idx y (cb :: wsL_law)) := fun w h =>
  have m : w ∈ wsL_law := (List.mem_append.mp h).elim (fun q => of_decide_eq_true (List.all_eq_true.mp h3 w q)) (fun q => (List.mem_cons.mp q).elim (fun e => by rw [e]; exact hc) id)
  ⟨hb w m, good_of_word (wsL_law_good w m)⟩
theorem wsM_up {c : Cond} : ∀ w ∈ wsL_law, w ∈ c :: wsL_law := fun _ h => List.mem_cons_of_mem _ h
theorem wsM_id : ∀ w ∈ wsL_law, w ∈ wsL_law := fun _ h => h
theorem inM_call : ∀ w ∈ wsL_call, w ∈ wsL_law := fun w h => (ggL_law_L_call w h).1
theorem inM_does : ∀ w ∈ wsL_does, w ∈ wsL_law := fun w h => inM_call w (ggL_call_L_does w h).1
theorem inM_all : ∀ w ∈ wsL_all, w ∈ wsL_law := fun w h => (ggL_law_L_all w h).1
theorem inM_weights : ∀ w ∈ wsL_weights, w ∈ wsL_law := fun w h => inM_all w (ggL_all_L_weights w h).1
def wsM_some : List Cond := Cond.code yL_some cL_some 2 (some .int) :: wsL_law
theorem cM_some : Cond.code yL_some cL_some 2 (some .int) ∈ wsL_law := wsL_r22_in _ (List.mem_of_getElem? (i := 3) rfl)
def wsM_does : List Cond := Cond.code yL_does cL_does 6 (some .int) :: wsL_law
theorem cM_does : Cond.code yL_does cL_does 6 (some .int) ∈ wsL_law := inM_does _ List.mem_cons_self
def wsM_weights : List Cond := Cond.code yL_weights cL_weights 4 (some .long) :: wsL_law
theorem cM_weights : Cond.code yL_weights cL_weights 4 (some .long) ∈ wsL_law := inM_weights _ List.mem_cons_self
def wsM_all : List Cond := Cond.code yL_all cL_all 5 (some .long) :: wsL_law
theorem cM_all : Cond.code yL_all cL_all 5 (some .long) ∈ wsL_law := inM_all _ List.mem_cons_self
def wsM_bests : List Cond := Cond.code yL_bests cL_bests 11 (some .boolean) :: wsL_law
theorem cM_bests : Cond.code yL_bests cL_bests 11 (some .boolean) ∈ wsL_law := wsL_r22_in _ (List.mem_of_getElem? (i := 18) rfl)
def wsM_grows : List Cond := Cond.code yL_grows cL_grows 9 (some .boolean) :: wsL_law
theorem cM_grows : Cond.code yL_grows cL_grows 9 (some .boolean) ∈ wsL_law := wsL_r22_in _ (List.mem_of_getElem? (i := 6) rfl)
def wsM_marks : List Cond := Cond.code yL_marks cL_marks 16 (some .boolean) :: wsL_law
theorem cM_marks : Cond.code yL_marks cL_marks 16 (some .boolean) ∈ wsL_law := wsL_r22_in _ (List.mem_of_getElem? (i := 9) rfl)
def wsM_weighs : List Cond := Cond.code yL_weighs cL_weighs 11 (some .boolean) :: wsL_law
theorem cM_weighs : Cond.code yL_weighs cL_weighs 11 (some .boolean) ∈ wsL_law := wsL_r22_in _ (List.mem_of_getElem? (i := 12) rfl)
def wsM_mends : List Cond := Cond.code yL_mends cL_mends 14 (some .boolean) :: wsL_law
theorem cM_mends : Cond.code yL_mends cL_mends 14 (some .boolean) ∈ wsL_law := wsL_r22_in _ (List.mem_of_getElem? (i := 15) rfl)
def wsM_call : List Cond := Cond.codeWith yL_call cL_call 7 (some .int) [(0, 11, 12, 14), (0, 11, 18, 16), (0, 11, 24, 18)] :: wsL_law
theorem cM_call : Cond.codeWith yL_call cL_call 7 (some .int) [(0, 11, 12, 14), (0, 11, 18, 16), (0, 11, 24, 18)] ∈ wsL_law := inM_call _ List.mem_cons_self
set_option maxRecDepth 100000 in
theorem gM_L_all {big : List Cond} (hb : ∀ w ∈ wsL_law, w ∈ big) : GoodIn big (va_wsS RL 127 yL_all wsM_all) := gM_law hb (by decide +kernel) cM_all
set_option maxRecDepth 100000 in
theorem gM_L_bests {big : List Cond} (hb : ∀ w ∈ wsL_law, w ∈ big) : GoodIn big (va_wsS RL 149 yL_bests wsM_bests) := gM_law hb (by decide +kernel) cM_bests
set_option maxRecDepth 100000 in
theorem gM_L_call {big : List Cond} (hb : ∀ w ∈ wsL_law, w ∈ big) : GoodIn big (va_wsS RL 114 yL_call wsM_call) := gM_law hb (by decide +kernel) cM_call
set_option maxRecDepth 100000 in
theorem gM_L_does {big : List Cond} (hb : ∀ w ∈ wsL_law, w ∈ big) : GoodIn big (va_wsS RL 8 yL_does wsM_does) := gM_law hb (by decide +kernel) cM_does
set_option maxRecDepth 100000 in
theorem gM_L_grows {big : List Cond} (hb : ∀ w ∈ wsL_law, w ∈ big) : GoodIn big (va_wsS RL 135 yL_grows wsM_grows) := gM_law hb (by decide +kernel) cM_grows
set_option maxRecDepth 100000 in
theorem gM_L_marks {big : List Cond} (hb : ∀ w ∈ wsL_law, w ∈ big) : GoodIn big (va_wsS RL 139 yL_marks wsM_marks) := gM_law hb (by decide +kernel) cM_marks
set_option maxRecDepth 100000 in
theorem gM_L_mends {big : List Cond} (hb : ∀ w ∈ wsL_law, w ∈ big) : GoodIn big (va_wsS RL 145 yL_mends wsM_mends) := gM_law hb (by decide +kernel) cM_mends
set_option maxRecDepth 100000 in
theorem gM_L_some {big : List Cond} (hb : ∀ w ∈ wsL_law, w ∈ big) : GoodIn big (va_wsS RL 124 yL_some wsM_some) := gM_law hb (by decide +kernel) cM_some
set_option maxRecDepth 100000 in
theorem gM_L_weighs {big : List Cond} (hb : ∀ w ∈ wsL_law, w ∈ big) : GoodIn big (va_wsS RL 142 yL_weighs wsM_weighs) := gM_law hb (by decide +kernel) cM_weighs
set_option maxRecDepth 100000 in
theorem gM_L_weights {big : List Cond} (hb : ∀ w ∈ wsL_law, w ∈ big) : GoodIn big (va_wsS RL 101 yL_weights wsM_weights) := gM_law hb (by decide +kernel) cM_weights
set_option maxRecDepth 100000 in
theorem gM_X6_addSentence {big : List Cond} (hb : ∀ w ∈ wsL_law, w ∈ big) : GoodIn big (wsV RL 20 RX6 yX6_addSentence wsX6_addSentence) := gM_cls hb (by decide +kernel) (fun w h => inM_does w (ggL_does_X6_addSentence w h).1)
set_option maxRecDepth 100000 in
theorem gM_X6_addWord {big : List Cond} (hb : ∀ w ∈ wsL_law, w ∈ big) : GoodIn big (wsV RL 26 RX6 yX6_addWord wsX6_addWord) := gM_cls hb (by decide +kernel) (fun w h => inM_does w (ggL_does_X6_addWord w h).1)
set_option maxRecDepth 100000 in
theorem gM_X6_average {big : List Cond} (hb : ∀ w ∈ wsL_law, w ∈ big) : GoodIn big (wsV RL 95 RX6 yX6_average wsX6_average) := gM_cls hb (by decide +kernel) (fun w h => inM_weights w (ggL_weights_X6_average w h).1)
set_option maxRecDepth 100000 in
theorem gM_X6_best {big : List Cond} (hb : ∀ w ∈ wsL_law, w ∈ big) : GoodIn big (wsV RL 59 RX6 yX6_best wsX6_best) := gM_cls hb (by decide +kernel) (fun w h => inM_does w (ggL_does_X6_best w h).1)
set_option maxRecDepth 100000 in
theorem gM_X6_bestByTrying {big : List Cond} (hb : ∀ w ∈ wsL_law, w ∈ big) : GoodIn big (wsV RL 62 RX6 yX6_bestByTrying wsX6_bestByTrying) := gM_cls hb (by decide +kernel) (fun w h => inM_does w (ggL_does_X6_bestByTrying w h).1)
set_option maxRecDepth 100000 in
theorem gM_X6_correct {big : List Cond} (hb : ∀ w ∈ wsL_law, w ∈ big) : GoodIn big (wsV RL 37 RX6 yX6_correct wsX6_correct) := gM_cls hb (by decide +kernel) (fun w h => inM_does w (ggL_does_X6_correct w h).1)
set_option maxRecDepth 100000 in
theorem gM_X6_crossings {big : List Cond} (hb : ∀ w ∈ wsL_law, w ∈ big) : GoodIn big (wsV RL 69 RX6 yX6_crossings wsX6_crossings) := gM_cls hb (by decide +kernel) (fun w h => inM_does w (ggL_does_X6_crossings w h).1)
set_option maxRecDepth 100000 in
theorem gM_X6_feature {big : List Cond} (hb : ∀ w ∈ wsL_law, w ∈ big) : GoodIn big (wsV RL 48 RX6 yX6_feature wsX6_feature) := gM_cls hb (by decide +kernel) (fun w h => inM_does w (ggL_does_X6_feature w h).1)
set_option maxRecDepth 100000 in
theorem gM_X6_head {big : List Cond} (hb : ∀ w ∈ wsL_law, w ∈ big) : GoodIn big (wsV RL 65 RX6 yX6_head wsX6_head) := gM_cls hb (by decide +kernel) (fun w h => inM_does w (ggL_does_X6_head w h).1)
set_option maxRecDepth 100000 in
theorem gM_X6_kind {big : List Cond} (hb : ∀ w ∈ wsL_law, w ∈ big) : GoodIn big (wsV RL 121 RX6 yX6_kind wsX6_kind) := gM_cls hb (by decide +kernel) (fun w h => inM_all w (ggL_all_X6_kind w h).1)
set_option maxRecDepth 100000 in
theorem gM_X6_mark {big : List Cond} (hb : ∀ w ∈ wsL_law, w ∈ big) : GoodIn big (wsV RL 33 RX6 yX6_mark wsX6_mark) := gM_cls hb (by decide +kernel) (fun w h => inM_does w (ggL_does_X6_mark w h).1)
set_option maxRecDepth 100000 in
theorem gM_X6_matched {big : List Cond} (hb : ∀ w ∈ wsL_law, w ∈ big) : GoodIn big (wsV RL 79 RX6 yX6_matched wsX6_matched) := gM_cls hb (by decide +kernel) (fun w h => inM_does w (ggL_does_X6_matched w h).1)
set_option maxRecDepth 100000 in
theorem gM_X6_mend {big : List Cond} (hb : ∀ w ∈ wsL_law, w ∈ big) : GoodIn big (wsV RL 41 RX6 yX6_mend wsX6_mend) := gM_cls hb (by decide +kernel) (fun w h => inM_does w (ggL_does_X6_mend w h).1)
set_option maxRecDepth 100000 in
theorem gM_X6_ranked {big : List Cond} (hb : ∀ w ∈ wsL_law, w ∈ big) : GoodIn big (wsV RL 72 RX6 yX6_ranked wsX6_ranked) := gM_cls hb (by decide +kernel) (fun w h => inM_does w (ggL_does_X6_ranked w h).1)
set_option maxRecDepth 100000 in
theorem gM_X6_rankedHead {big : List Cond} (hb : ∀ w ∈ wsL_law, w ∈ big) : GoodIn big (wsV RL 75 RX6 yX6_rankedHead wsX6_rankedHead) := gM_cls hb (by decide +kernel) (fun w h => inM_does w (ggL_does_X6_rankedHead w h).1)
set_option maxRecDepth 100000 in
theorem gM_X6_rollBack {big : List Cond} (hb : ∀ w ∈ wsL_law, w ∈ big) : GoodIn big (wsV RL 45 RX6 yX6_rollBack wsX6_rollBack) := gM_cls hb (by decide +kernel) (fun w h => inM_does w (ggL_does_X6_rollBack w h).1)
set_option maxRecDepth 100000 in
theorem gM_X6_score {big : List Cond} (hb : ∀ w ∈ wsL_law, w ∈ big) : GoodIn big (wsV RL 52 RX6 yX6_score wsX6_score) := gM_cls hb (by decide +kernel) (fun w h => inM_does w (ggL_does_X6_score w h).1)
set_option maxRecDepth 100000 in
theorem gM_X6_sentences {big : List Cond} (hb : ∀ w ∈ wsL_law, w ∈ big) : GoodIn big (wsV RL 105 RX6 yX6_sentences wsX6_sentences) := gM_cls hb (by decide +kernel) (fun w h => inM_all w (ggL_all_X6_sentences w h).1)
set_option maxRecDepth 100000 in
theorem gM_X6_setWeight {big : List Cond} (hb : ∀ w ∈ wsL_law, w ∈ big) : GoodIn big (wsV RL 30 RX6 yX6_setWeight wsX6_setWeight) := gM_cls hb (by decide +kernel) (fun w h => inM_does w (ggL_does_X6_setWeight w h).1)
set_option maxRecDepth 100000 in
theorem gM_X6_steps {big : List Cond} (hb : ∀ w ∈ wsL_law, w ∈ big) : GoodIn big (wsV RL 88 RX6 yX6_steps wsX6_steps) := gM_cls hb (by decide +kernel) (fun w h => inM_weights w (ggL_weights_X6_steps w h).1)
set_option maxRecDepth 100000 in
theorem gM_X6_trees {big : List Cond} (hb : ∀ w ∈ wsL_law, w ∈ big) : GoodIn big (wsV RL 55 RX6 yX6_trees wsX6_trees) := gM_cls hb (by decide +kernel) (fun w h => inM_does w (ggL_does_X6_trees w h).1)
set_option maxRecDepth 100000 in
theorem gM_X6_weight {big : List Cond} (hb : ∀ w ∈ wsL_law, w ∈ big) : GoodIn big (wsV RL 85 RX6 yX6_weight wsX6_weight) := gM_cls hb (by decide +kernel) (fun w h => inM_does w (ggL_does_X6_weight w h).1)
set_option maxRecDepth 100000 in
theorem gM_X6_words {big : List Cond} (hb : ∀ w ∈ wsL_law, w ∈ big) : GoodIn big (wsV RL 82 RX6 yX6_words wsX6_words) := gM_cls hb (by decide +kernel) (fun w h => inM_does w (ggL_does_X6_words w h).1)

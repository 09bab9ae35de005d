/-! THE WORDS OF THE LAW'S METHODS (by program: wip/p26/gen/goods.py). Each has its own code's word and all of wsL_law. -/
theorem gM_cls {big : List Cond} (hb : ∀ w ∈ wsL_law, w ∈ big) {idx : Nat} {y : MethodName} {ws : List Cond} (h1 : .methodLink RL idx y ∈ wsL_law) (h2 : .instanceMethod y ∈ wsL_law) (h3 : .selects RX6 y y ∈ wsL_law) (h4 : .initialized RX6 ∈ wsL_law) (hw : ∀ w ∈ ws, w ∈ wsL_law) : GoodIn big (wsV RL idx RX6 y ws) := fun w h =>
  have m : w ∈ wsL_law := (List.mem_append.mp h).elim (fun q => (List.forall_mem_cons.mpr ⟨h1, List.forall_mem_cons.mpr ⟨h2, List.forall_mem_cons.mpr ⟨h3, List.forall_mem_cons.mpr ⟨h4, fun _ q => by cases q⟩⟩⟩⟩ : ∀ w ∈ ([.methodLink RL idx y, .instanceMethod y, .selects RX6 y y, .initialized RX6] : List Cond), w ∈ wsL_law) w q) (hw w)
  ⟨hb w m, good_of_word (wsL_law_good w m)⟩
theorem gM_law {big : List Cond} (hb : ∀ w ∈ wsL_law, w ∈ big) {idx : Nat} {y : MethodName} {cb : Cond} (h1 : .methodLink RL idx y ∈ wsL_law) (h2 : .static y ∈ wsL_law) (h3 : .initialized y.cls ∈ wsL_law) (hc : cb ∈ wsL_law) : GoodIn big (va_wsS RL idx y (cb :: wsL_law)) := fun w h =>
  have m : w ∈ wsL_law := (List.mem_append.mp h).elim (fun q => (List.forall_mem_cons.mpr ⟨h1, List.forall_mem_cons.mpr ⟨h2, List.forall_mem_cons.mpr ⟨h3, fun _ q => by cases q⟩⟩⟩ : ∀ w ∈ ([.methodLink RL idx y, .static y, .initialized y.cls] : List Cond), w ∈ wsL_law) w q) (fun q => (List.mem_cons.mp q).elim (fun e => by rw [e]; exact hc) id)
  ⟨hb w m, good_of_word (wsL_law_good w m)⟩
theorem wsM_up {c : Cond} : ∀ w ∈ wsL_law, w ∈ c :: wsL_law := fun _ h => List.mem_cons_of_mem _ h
theorem wsM_id : ∀ w ∈ wsL_law, w ∈ wsL_law := fun _ h => h
theorem inM_weights : ∀ w ∈ wsL_weights, w ∈ wsL_law := fun w h => inM_all w (ggL_all_L_weights w h).1
def wsM_some : List Cond := Cond.code yL_some cL_some 2 (some .int) :: wsL_law
theorem cM_some : Cond.code yL_some cL_some 2 (some .int) ∈ wsL_law := wsLa_in (q := (22, 3)) rfl
def wsM_does : List Cond := Cond.code yL_does cL_does 6 (some .int) :: wsL_law
theorem cM_does : Cond.code yL_does cL_does 6 (some .int) ∈ wsL_law := wsLa_in (q := (11, 0)) rfl
def wsM_weights : List Cond := Cond.code yL_weights cL_weights 4 (some .long) :: wsL_law
theorem cM_weights : Cond.code yL_weights cL_weights 4 (some .long) ∈ wsL_law := wsLa_in (q := (4, 16)) rfl
def wsM_all : List Cond := Cond.code yL_all cL_all 5 (some .long) :: wsL_law
theorem cM_all : Cond.code yL_all cL_all 5 (some .long) ∈ wsL_law := wsLa_in (q := (4, 7)) rfl
def wsM_bests : List Cond := Cond.code yL_bests cL_bests 11 (some .boolean) :: wsL_law
theorem cM_bests : Cond.code yL_bests cL_bests 11 (some .boolean) ∈ wsL_law := wsLa_in (q := (22, 18)) rfl
def wsM_grows : List Cond := Cond.code yL_grows cL_grows 9 (some .boolean) :: wsL_law
theorem cM_grows : Cond.code yL_grows cL_grows 9 (some .boolean) ∈ wsL_law := wsLa_in (q := (22, 6)) rfl
def wsM_marks : List Cond := Cond.code yL_marks cL_marks 16 (some .boolean) :: wsL_law
theorem cM_marks : Cond.code yL_marks cL_marks 16 (some .boolean) ∈ wsL_law := wsLa_in (q := (22, 9)) rfl
def wsM_weighs : List Cond := Cond.code yL_weighs cL_weighs 11 (some .boolean) :: wsL_law
theorem cM_weighs : Cond.code yL_weighs cL_weighs 11 (some .boolean) ∈ wsL_law := wsLa_in (q := (22, 12)) rfl
def wsM_mends : List Cond := Cond.code yL_mends cL_mends 14 (some .boolean) :: wsL_law
theorem cM_mends : Cond.code yL_mends cL_mends 14 (some .boolean) ∈ wsL_law := wsLa_in (q := (22, 15)) rfl
def wsM_call : List Cond := Cond.codeWith yL_call cL_call 7 (some .int) [(0, 11, 12, 14), (0, 11, 18, 16), (0, 11, 24, 18)] :: wsL_law
theorem cM_call : Cond.codeWith yL_call cL_call 7 (some .int) [(0, 11, 12, 14), (0, 11, 18, 16), (0, 11, 24, 18)] ∈ wsL_law := wsLa_in (q := (10, 18)) rfl
set_option maxRecDepth 100000 in
theorem gM_L_all {big : List Cond} (hb : ∀ w ∈ wsL_law, w ∈ big) : GoodIn big (va_wsS RL 127 yL_all wsM_all) := gM_law hb (wsLa_in (q := (4, 4)) rfl) (wsLa_in (q := (4, 5)) rfl) (wsLa_in (q := (4, 6)) rfl) cM_all
set_option maxRecDepth 100000 in
theorem gM_L_bests {big : List Cond} (hb : ∀ w ∈ wsL_law, w ∈ big) : GoodIn big (va_wsS RL 149 yL_bests wsM_bests) := gM_law hb (wsLa_in (q := (22, 16)) rfl) (wsLa_in (q := (22, 17)) rfl) (wsLa_in (q := (4, 6)) rfl) cM_bests
set_option maxRecDepth 100000 in
theorem gM_L_call {big : List Cond} (hb : ∀ w ∈ wsL_law, w ∈ big) : GoodIn big (va_wsS RL 114 yL_call wsM_call) := gM_law hb (wsLa_in (q := (10, 16)) rfl) (wsLa_in (q := (10, 17)) rfl) (wsLa_in (q := (4, 6)) rfl) cM_call
set_option maxRecDepth 100000 in
theorem gM_L_does {big : List Cond} (hb : ∀ w ∈ wsL_law, w ∈ big) : GoodIn big (va_wsS RL 8 yL_does wsM_does) := gM_law hb (wsLa_in (q := (10, 22)) rfl) (wsLa_in (q := (10, 23)) rfl) (wsLa_in (q := (4, 6)) rfl) cM_does
set_option maxRecDepth 100000 in
theorem gM_L_grows {big : List Cond} (hb : ∀ w ∈ wsL_law, w ∈ big) : GoodIn big (va_wsS RL 135 yL_grows wsM_grows) := gM_law hb (wsLa_in (q := (22, 4)) rfl) (wsLa_in (q := (22, 5)) rfl) (wsLa_in (q := (4, 6)) rfl) cM_grows
set_option maxRecDepth 100000 in
theorem gM_L_marks {big : List Cond} (hb : ∀ w ∈ wsL_law, w ∈ big) : GoodIn big (va_wsS RL 139 yL_marks wsM_marks) := gM_law hb (wsLa_in (q := (22, 7)) rfl) (wsLa_in (q := (22, 8)) rfl) (wsLa_in (q := (4, 6)) rfl) cM_marks
set_option maxRecDepth 100000 in
theorem gM_L_mends {big : List Cond} (hb : ∀ w ∈ wsL_law, w ∈ big) : GoodIn big (va_wsS RL 145 yL_mends wsM_mends) := gM_law hb (wsLa_in (q := (22, 13)) rfl) (wsLa_in (q := (22, 14)) rfl) (wsLa_in (q := (4, 6)) rfl) cM_mends
set_option maxRecDepth 100000 in
theorem gM_L_some {big : List Cond} (hb : ∀ w ∈ wsL_law, w ∈ big) : GoodIn big (va_wsS RL 124 yL_some wsM_some) := gM_law hb (wsLa_in (q := (22, 1)) rfl) (wsLa_in (q := (22, 2)) rfl) (wsLa_in (q := (4, 6)) rfl) cM_some
set_option maxRecDepth 100000 in
theorem gM_L_weighs {big : List Cond} (hb : ∀ w ∈ wsL_law, w ∈ big) : GoodIn big (va_wsS RL 142 yL_weighs wsM_weighs) := gM_law hb (wsLa_in (q := (22, 10)) rfl) (wsLa_in (q := (22, 11)) rfl) (wsLa_in (q := (4, 6)) rfl) cM_weighs
set_option maxRecDepth 100000 in
theorem gM_L_weights {big : List Cond} (hb : ∀ w ∈ wsL_law, w ∈ big) : GoodIn big (va_wsS RL 101 yL_weights wsM_weights) := gM_law hb (wsLa_in (q := (4, 14)) rfl) (wsLa_in (q := (4, 15)) rfl) (wsLa_in (q := (4, 6)) rfl) cM_weights
set_option maxRecDepth 100000 in
theorem gM_X6_addSentence {big : List Cond} (hb : ∀ w ∈ wsL_law, w ∈ big) : GoodIn big (wsV RL 20 RX6 yX6_addSentence wsX6_addSentence) := gM_cls hb (wsLa_in (q := (11, 1)) rfl) (wsLa_in (q := (11, 2)) rfl) (wsLa_in (q := (11, 3)) rfl) (wsLa_in (q := (1, 2)) rfl) (fun w h => inM_does w (ggL_does_X6_addSentence w h).1)
set_option maxRecDepth 100000 in
theorem gM_X6_addWord {big : List Cond} (hb : ∀ w ∈ wsL_law, w ∈ big) : GoodIn big (wsV RL 26 RX6 yX6_addWord wsX6_addWord) := gM_cls hb (wsLa_in (q := (11, 18)) rfl) (wsLa_in (q := (11, 19)) rfl) (wsLa_in (q := (11, 20)) rfl) (wsLa_in (q := (1, 2)) rfl) (fun w h => inM_does w (ggL_does_X6_addWord w h).1)
set_option maxRecDepth 100000 in
theorem gM_X6_average {big : List Cond} (hb : ∀ w ∈ wsL_law, w ∈ big) : GoodIn big (wsV RL 95 RX6 yX6_average wsX6_average) := gM_cls hb (wsLa_in (q := (5, 19)) rfl) (wsLa_in (q := (5, 20)) rfl) (wsLa_in (q := (5, 21)) rfl) (wsLa_in (q := (1, 2)) rfl) (fun w h => inM_weights w (ggL_weights_X6_average w h).1)
set_option maxRecDepth 100000 in
theorem gM_X6_best {big : List Cond} (hb : ∀ w ∈ wsL_law, w ∈ big) : GoodIn big (wsV RL 59 RX6 yX6_best wsX6_best) := gM_cls hb (wsLa_in (q := (19, 6)) rfl) (wsLa_in (q := (19, 7)) rfl) (wsLa_in (q := (19, 8)) rfl) (wsLa_in (q := (1, 2)) rfl) (fun w h => inM_does w (ggL_does_X6_best w h).1)
set_option maxRecDepth 100000 in
theorem gM_X6_bestByTrying {big : List Cond} (hb : ∀ w ∈ wsL_law, w ∈ big) : GoodIn big (wsV RL 62 RX6 yX6_bestByTrying wsX6_bestByTrying) := gM_cls hb (wsLa_in (q := (19, 13)) rfl) (wsLa_in (q := (19, 14)) rfl) (wsLa_in (q := (19, 15)) rfl) (wsLa_in (q := (1, 2)) rfl) (fun w h => inM_does w (ggL_does_X6_bestByTrying w h).1)
set_option maxRecDepth 100000 in
theorem gM_X6_correct {big : List Cond} (hb : ∀ w ∈ wsL_law, w ∈ big) : GoodIn big (wsV RL 37 RX6 yX6_correct wsX6_correct) := gM_cls hb (wsLa_in (q := (13, 15)) rfl) (wsLa_in (q := (13, 16)) rfl) (wsLa_in (q := (13, 17)) rfl) (wsLa_in (q := (1, 2)) rfl) (fun w h => inM_does w (ggL_does_X6_correct w h).1)
set_option maxRecDepth 100000 in
theorem gM_X6_crossings {big : List Cond} (hb : ∀ w ∈ wsL_law, w ∈ big) : GoodIn big (wsV RL 69 RX6 yX6_crossings wsX6_crossings) := gM_cls hb (wsLa_in (q := (20, 2)) rfl) (wsLa_in (q := (20, 3)) rfl) (wsLa_in (q := (20, 4)) rfl) (wsLa_in (q := (1, 2)) rfl) (fun w h => inM_does w (ggL_does_X6_crossings w h).1)
set_option maxRecDepth 100000 in
theorem gM_X6_feature {big : List Cond} (hb : ∀ w ∈ wsL_law, w ∈ big) : GoodIn big (wsV RL 48 RX6 yX6_feature wsX6_feature) := gM_cls hb (wsLa_in (q := (18, 19)) rfl) (wsLa_in (q := (18, 20)) rfl) (wsLa_in (q := (18, 21)) rfl) (wsLa_in (q := (1, 2)) rfl) (fun w h => inM_does w (ggL_does_X6_feature w h).1)
set_option maxRecDepth 100000 in
theorem gM_X6_head {big : List Cond} (hb : ∀ w ∈ wsL_law, w ∈ big) : GoodIn big (wsV RL 65 RX6 yX6_head wsX6_head) := gM_cls hb (wsLa_in (q := (19, 22)) rfl) (wsLa_in (q := (19, 23)) rfl) (wsLa_in (q := (20, 0)) rfl) (wsLa_in (q := (1, 2)) rfl) (fun w h => inM_does w (ggL_does_X6_head w h).1)
set_option maxRecDepth 100000 in
theorem gM_X6_kind {big : List Cond} (hb : ∀ w ∈ wsL_law, w ∈ big) : GoodIn big (wsV RL 121 RX6 yX6_kind wsX6_kind) := gM_cls hb (wsLa_in (q := (21, 16)) rfl) (wsLa_in (q := (21, 17)) rfl) (wsLa_in (q := (21, 18)) rfl) (wsLa_in (q := (1, 2)) rfl) (fun w h => inM_all w (ggL_all_X6_kind w h).1)
set_option maxRecDepth 100000 in
theorem gM_X6_mark {big : List Cond} (hb : ∀ w ∈ wsL_law, w ∈ big) : GoodIn big (wsV RL 33 RX6 yX6_mark wsX6_mark) := gM_cls hb (wsLa_in (q := (13, 0)) rfl) (wsLa_in (q := (13, 1)) rfl) (wsLa_in (q := (13, 2)) rfl) (wsLa_in (q := (1, 2)) rfl) (fun w h => inM_does w (ggL_does_X6_mark w h).1)
set_option maxRecDepth 100000 in
theorem gM_X6_matched {big : List Cond} (hb : ∀ w ∈ wsL_law, w ∈ big) : GoodIn big (wsV RL 79 RX6 yX6_matched wsX6_matched) := gM_cls hb (wsLa_in (q := (21, 12)) rfl) (wsLa_in (q := (21, 13)) rfl) (wsLa_in (q := (21, 14)) rfl) (wsLa_in (q := (1, 2)) rfl) (fun w h => inM_does w (ggL_does_X6_matched w h).1)
set_option maxRecDepth 100000 in
theorem gM_X6_mend {big : List Cond} (hb : ∀ w ∈ wsL_law, w ∈ big) : GoodIn big (wsV RL 41 RX6 yX6_mend wsX6_mend) := gM_cls hb (wsLa_in (q := (14, 3)) rfl) (wsLa_in (q := (14, 4)) rfl) (wsLa_in (q := (14, 5)) rfl) (wsLa_in (q := (1, 2)) rfl) (fun w h => inM_does w (ggL_does_X6_mend w h).1)
set_option maxRecDepth 100000 in
theorem gM_X6_ranked {big : List Cond} (hb : ∀ w ∈ wsL_law, w ∈ big) : GoodIn big (wsV RL 72 RX6 yX6_ranked wsX6_ranked) := gM_cls hb (wsLa_in (q := (20, 7)) rfl) (wsLa_in (q := (20, 8)) rfl) (wsLa_in (q := (20, 9)) rfl) (wsLa_in (q := (1, 2)) rfl) (fun w h => inM_does w (ggL_does_X6_ranked w h).1)
set_option maxRecDepth 100000 in
theorem gM_X6_rankedHead {big : List Cond} (hb : ∀ w ∈ wsL_law, w ∈ big) : GoodIn big (wsV RL 75 RX6 yX6_rankedHead wsX6_rankedHead) := gM_cls hb (wsLa_in (q := (21, 8)) rfl) (wsLa_in (q := (21, 9)) rfl) (wsLa_in (q := (21, 10)) rfl) (wsLa_in (q := (1, 2)) rfl) (fun w h => inM_does w (ggL_does_X6_rankedHead w h).1)
set_option maxRecDepth 100000 in
theorem gM_X6_rollBack {big : List Cond} (hb : ∀ w ∈ wsL_law, w ∈ big) : GoodIn big (wsV RL 45 RX6 yX6_rollBack wsX6_rollBack) := gM_cls hb (wsLa_in (q := (18, 7)) rfl) (wsLa_in (q := (18, 8)) rfl) (wsLa_in (q := (18, 9)) rfl) (wsLa_in (q := (1, 2)) rfl) (fun w h => inM_does w (ggL_does_X6_rollBack w h).1)
set_option maxRecDepth 100000 in
theorem gM_X6_score {big : List Cond} (hb : ∀ w ∈ wsL_law, w ∈ big) : GoodIn big (wsV RL 52 RX6 yX6_score wsX6_score) := gM_cls hb (wsLa_in (q := (19, 1)) rfl) (wsLa_in (q := (19, 2)) rfl) (wsLa_in (q := (19, 3)) rfl) (wsLa_in (q := (1, 2)) rfl) (fun w h => inM_does w (ggL_does_X6_score w h).1)
set_option maxRecDepth 100000 in
theorem gM_X6_sentences {big : List Cond} (hb : ∀ w ∈ wsL_law, w ∈ big) : GoodIn big (wsV RL 105 RX6 yX6_sentences wsX6_sentences) := gM_cls hb (wsLa_in (q := (6, 3)) rfl) (wsLa_in (q := (6, 4)) rfl) (wsLa_in (q := (6, 5)) rfl) (wsLa_in (q := (1, 2)) rfl) (fun w h => inM_all w (ggL_all_X6_sentences w h).1)
set_option maxRecDepth 100000 in
theorem gM_X6_setWeight {big : List Cond} (hb : ∀ w ∈ wsL_law, w ∈ big) : GoodIn big (wsV RL 30 RX6 yX6_setWeight wsX6_setWeight) := gM_cls hb (wsLa_in (q := (12, 4)) rfl) (wsLa_in (q := (12, 5)) rfl) (wsLa_in (q := (12, 6)) rfl) (wsLa_in (q := (1, 2)) rfl) (fun w h => inM_does w (ggL_does_X6_setWeight w h).1)
set_option maxRecDepth 100000 in
theorem gM_X6_steps {big : List Cond} (hb : ∀ w ∈ wsL_law, w ∈ big) : GoodIn big (wsV RL 88 RX6 yX6_steps wsX6_steps) := gM_cls hb (wsLa_in (q := (4, 19)) rfl) (wsLa_in (q := (4, 20)) rfl) (wsLa_in (q := (4, 21)) rfl) (wsLa_in (q := (1, 2)) rfl) (fun w h => inM_weights w (ggL_weights_X6_steps w h).1)
set_option maxRecDepth 100000 in
theorem gM_X6_trees {big : List Cond} (hb : ∀ w ∈ wsL_law, w ∈ big) : GoodIn big (wsV RL 55 RX6 yX6_trees wsX6_trees) := gM_cls hb (wsLa_in (q := (6, 21)) rfl) (wsLa_in (q := (6, 22)) rfl) (wsLa_in (q := (6, 23)) rfl) (wsLa_in (q := (1, 2)) rfl) (fun w h => inM_does w (ggL_does_X6_trees w h).1)
set_option maxRecDepth 100000 in
theorem gM_X6_weight {big : List Cond} (hb : ∀ w ∈ wsL_law, w ∈ big) : GoodIn big (wsV RL 85 RX6 yX6_weight wsX6_weight) := gM_cls hb (wsLa_in (q := (5, 3)) rfl) (wsLa_in (q := (5, 4)) rfl) (wsLa_in (q := (5, 5)) rfl) (wsLa_in (q := (1, 2)) rfl) (fun w h => inM_does w (ggL_does_X6_weight w h).1)
set_option maxRecDepth 100000 in
theorem gM_X6_words {big : List Cond} (hb : ∀ w ∈ wsL_law, w ∈ big) : GoodIn big (wsV RL 82 RX6 yX6_words wsX6_words) := gM_cls hb (wsLa_in (q := (6, 7)) rfl) (wsLa_in (q := (6, 8)) rfl) (wsLa_in (q := (6, 9)) rfl) (wsLa_in (q := (1, 2)) rfl) (fun w h => inM_does w (ggL_does_X6_words w h).1)

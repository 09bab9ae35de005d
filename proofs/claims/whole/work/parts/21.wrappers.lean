/-! The law's wrappers, laid by program (wip/whole/gen/genw.py) -/
def f_L_addWord (N : Nat) (K len : Nat → Nat) (x0 : Nat) (x1 : Int32) (x2 : Int32) (x3 : Nat) (M : ZM) : Option (Int32 × ZM) :=
zg (K x0 == 7) (
zbp (f_X6_addWord N K len x0 x1 x2 M) fun q2 M4 => (
zx q2 (fun k => (if k = 1 then some ((1 : Int32), M4) else (if k = 2 then some ((2 : Int32), M4) else (if k = 3 then some ((3 : Int32), M4) else none)))) fun r5 => (
zg (zok K len x3 12 (0 : Int32)) (
zl (zsJ M4 x3 (0 : Int32).toNatClampNeg r5.toInt64) fun M7 => (
some ((0 : Int32), M7))))))
set_option maxRecDepth 100000 in
set_option maxHeartbeats 4000000 in
theorem m_L_addWord (l : Launch) (hlt : l.stackTraces = false) {D : va_G} {cy : Nat → ClassId} {ad : Nat → Nat} {L : List Nat} {K len : Nat → Nat} (hL : zSh ad L K) (N : Nat) {x0 : Nat} {x1 : Int32} {x2 : Int32} {x3 : Nat} {M Mr : ZM} {r : Int32} (h : f_L_addWord N K len x0 x1 x2 x3 M = some (r, Mr)) (sz : Nat) : Met l yL_addWord wsL_addWord ({ frames := 8, cells := 2, slots := 12, locals := 135 } : Room) (zPre D cy ad L K len sz [.ref (ad x0), .int x1, .int x2, .ref (ad x3)] M) (zQi D cy ad L K len r Mr sz) 2 12 (zA ad L sz) := by
  refine z_wentry (hh := [(0, 10, 13, 19), (0, 10, 17, 21), (0, 10, 21, 13)]) (Qf := fun sz => zQi D cy ad L K len r Mr sz) (av := [.ref (ad x0), .int x1, .int x2, .ref (ad x3)]) (by decide) rfl rfl hL (Nat.le_of_ble_eq_true rfl) (fun p e s m args below meth c C0 H locs ls hW hS hl => ?_)
  obtain ⟨⟨hx, hb, hr, hml, hown, hts, hlocks, hK, hL, hE⟩, htb⟩ := id C0
  unfold f_L_addWord at h
  refine lv_aload_n hx hb dL_addWord_0 rfl (lv_at hl 3 rfl) ?_
  refine lv_iconst (v := 0) hx hb dL_addWord_1 (by decide) ?_
  refine lv_aload_n hx hb dL_addWord_2 rfl (lv_at hl 0 rfl) ?_
  refine lv_iload_n hx hb dL_addWord_3 rfl (lv_at hl 1 rfl) ?_
  refine lv_iload_n hx hb dL_addWord_4 rfl (lv_at hl 2 rfl) ?_
  obtain ⟨g1, h⟩ := zg_some h
  obtain ⟨q2, M4, e3, h⟩ := zbp_some h
  refine z_xcalli hS (vx_runV (As := [.int x1, .int x2]) (rest := [.int (0 : Int32), .ref (ad x3)]) ⟨hx, hb, hml, hown, hts⟩ (m_X6_addWord l hlt hL N e3 H.size) (cwV 2 hts gL_addWord_X6_addWord rfl rfl rfl (by decide +kernel) ⟨Nat.le_of_ble_eq_true rfl, Nat.le_of_ble_eq_true rfl⟩) (z_preV (q := (RX6, TX6, 7)) hK hL hE hW hS (zK_of g1) (by decide) rfl [.int x1, .int x2]) rfl rfl hl.1 rfl (lv_room (Nat.le_of_ble_eq_true rfl)) dL_addWord_5 ⟨Nat.le_of_ble_eq_true rfl, Nat.le_of_ble_eq_true rfl⟩) (fun k hk H locs q9 ce hW hS hce hcv hcl => ?_) (fun r5 hk H locs hW hS => ?_)
  · subst hk
    have h := zx_l h
    by_cases hk1 : k = 1
    · subst hk1
      have h := zip rfl h
      refine vx_catch (own := RL) (name := "java/lang/IndexOutOfBoundsException") (E := "java/lang/IndexOutOfBoundsException") hown [] ⟨0, 10, 13, 19⟩ [⟨0, 10, 17, 21⟩, ⟨0, 10, 21, 13⟩] htb (fun z hz => by simp at hz) (by decide) (by decide) (hts (.classLink RL 19 "java/lang/IndexOutOfBoundsException") (by decide +kernel)) (va_Nw.use rfl (hE.1 (.castable "java/lang/IndexOutOfBoundsException" "java/lang/IndexOutOfBoundsException") (by decide +kernel))) hce hcv hcl ?_
      refine lv_astore (lv' := [(4, .ref q9), (0, .ref (ad x0)), (1, .int x1), (2, .int x2), (3, .ref (ad x3))]) hx hb dL_addWord_13 hl (by decide) rfl (fun ls hl => ?_)
      refine lv_iconst (v := 1) hx hb dL_addWord_15 (by decide) ?_
      refine W.widen (k := 2) (n := 12) (Nat.le_of_ble_eq_true rfl) (Nat.le_of_ble_eq_true rfl) ?_
      exact z_iret hx hb hr hlocks hW hS (congrArg Prod.fst (Option.some.inj h)) (congrArg Prod.snd (Option.some.inj h)) dL_addWord_16
    · have h := zin hk1 h
      by_cases hk2 : k = 2
      · subst hk2
        have h := zip rfl h
        refine vx_catch (own := RL) (name := "java/lang/IllegalArgumentException") (E := "java/lang/IllegalArgumentException") hown [⟨0, 10, 13, 19⟩] ⟨0, 10, 17, 21⟩ [⟨0, 10, 21, 13⟩] htb (fun z hz => by
            simp only [List.mem_cons, List.not_mem_nil, or_false] at hz
            rcases hz with rfl
            · exact Or.inr ⟨by decide, "java/lang/IndexOutOfBoundsException", hts (.classLink RL 19 "java/lang/IndexOutOfBoundsException") (by decide +kernel), hE.2.2.2.2.1 ("java/lang/IllegalArgumentException", "java/lang/IndexOutOfBoundsException") (by decide)⟩
            ) (by decide) (by decide) (hts (.classLink RL 21 "java/lang/IllegalArgumentException") (by decide +kernel)) (va_Nw.use rfl (hE.1 (.castable "java/lang/IllegalArgumentException" "java/lang/IllegalArgumentException") (by decide +kernel))) hce hcv hcl ?_
        refine lv_astore (lv' := [(4, .ref q9), (0, .ref (ad x0)), (1, .int x1), (2, .int x2), (3, .ref (ad x3))]) hx hb dL_addWord_17 hl (by decide) rfl (fun ls hl => ?_)
        refine lv_iconst (v := 2) hx hb dL_addWord_19 (by decide) ?_
        refine W.widen (k := 2) (n := 12) (Nat.le_of_ble_eq_true rfl) (Nat.le_of_ble_eq_true rfl) ?_
        exact z_iret hx hb hr hlocks hW hS (congrArg Prod.fst (Option.some.inj h)) (congrArg Prod.snd (Option.some.inj h)) dL_addWord_20
      · have h := zin hk2 h
        by_cases hk3 : k = 3
        · subst hk3
          have h := zip rfl h
          refine vx_catch (own := RL) (name := "java/lang/IllegalStateException") (E := "java/lang/IllegalStateException") hown [⟨0, 10, 13, 19⟩, ⟨0, 10, 17, 21⟩] ⟨0, 10, 21, 13⟩ [] htb (fun z hz => by
              simp only [List.mem_cons, List.not_mem_nil, or_false] at hz
              rcases hz with rfl | rfl
              · exact Or.inr ⟨by decide, "java/lang/IndexOutOfBoundsException", hts (.classLink RL 19 "java/lang/IndexOutOfBoundsException") (by decide +kernel), hE.2.2.2.2.1 ("java/lang/IllegalStateException", "java/lang/IndexOutOfBoundsException") (by decide)⟩
              · exact Or.inr ⟨by decide, "java/lang/IllegalArgumentException", hts (.classLink RL 21 "java/lang/IllegalArgumentException") (by decide +kernel), hE.2.2.2.2.1 ("java/lang/IllegalStateException", "java/lang/IllegalArgumentException") (by decide)⟩
              ) (by decide) (by decide) (hts (.classLink RL 13 "java/lang/IllegalStateException") (by decide +kernel)) (va_Nw.use rfl (hE.1 (.castable "java/lang/IllegalStateException" "java/lang/IllegalStateException") (by decide +kernel))) hce hcv hcl ?_
          refine lv_astore (lv' := [(4, .ref q9), (0, .ref (ad x0)), (1, .int x1), (2, .int x2), (3, .ref (ad x3))]) hx hb dL_addWord_21 hl (by decide) rfl (fun ls hl => ?_)
          refine lv_iconst (v := 3) hx hb dL_addWord_23 (by decide) ?_
          refine W.widen (k := 2) (n := 12) (Nat.le_of_ble_eq_true rfl) (Nat.le_of_ble_eq_true rfl) ?_
          exact z_iret hx hb hr hlocks hW hS (congrArg Prod.fst (Option.some.inj h)) (congrArg Prod.snd (Option.some.inj h)) dL_addWord_24
        · have h := zin hk3 h
          cases h
  subst hk
  have h := zx_r h
  refine lv_i2l hx hb dL_addWord_8 rfl ?_
  obtain ⟨g6, h⟩ := zg_some h
  refine z_last hx hb hK hL hW hS g6 dL_addWord_9 (fun H locs hW hS => ?_)
  obtain ⟨M7, eM8, h⟩ := zl_some h
  rw [← eM8] at hW
  refine lv_goto (tgt := 25) hx hb dL_addWord_10 (by decide) ?_
  refine lv_iconst (v := 0) hx hb dL_addWord_25 (by decide) ?_
  refine W.widen (k := 2) (n := 12) (Nat.le_of_ble_eq_true rfl) (Nat.le_of_ble_eq_true rfl) ?_
  exact z_iret hx hb hr hlocks hW hS (congrArg Prod.fst (Option.some.inj h)) (congrArg Prod.snd (Option.some.inj h)) dL_addWord_26
def f_L_words (N : Nat) (K len : Nat → Nat) (x0 : Nat) (x1 : Int32) (x2 : Nat) (M : ZM) : Option (Int32 × ZM) :=
zg (K x0 == 7) (
(f_X6_words N K len x0 x1 M).bind fun q2 => (
zx q2 (fun k => (if k = 1 then some ((1 : Int32), M) else none)) fun r4 => (
zg (zok K len x2 12 (0 : Int32)) (
zl (zsJ M x2 (0 : Int32).toNatClampNeg r4.toInt64) fun M6 => (
some ((0 : Int32), M6))))))
set_option maxRecDepth 100000 in
set_option maxHeartbeats 4000000 in
theorem m_L_words (l : Launch) (hlt : l.stackTraces = false) {D : va_G} {cy : Nat → ClassId} {ad : Nat → Nat} {L : List Nat} {K len : Nat → Nat} (hL : zSh ad L K) (N : Nat) {x0 : Nat} {x1 : Int32} {x2 : Nat} {M Mr : ZM} {r : Int32} (h : f_L_words N K len x0 x1 x2 M = some (r, Mr)) (sz : Nat) : Met l yL_words wsL_words ({ frames := 8, cells := 1, slots := 6, locals := 133 } : Room) (zPre D cy ad L K len sz [.ref (ad x0), .int x1, .ref (ad x2)] M) (zQi D cy ad L K len r Mr sz) 1 6 (zA ad L sz) := by
  refine z_wentry (hh := [(0, 9, 12, 19)]) (Qf := fun sz => zQi D cy ad L K len r Mr sz) (av := [.ref (ad x0), .int x1, .ref (ad x2)]) (by decide) rfl rfl hL (Nat.le_of_ble_eq_true rfl) (fun p e s m args below meth c C0 H locs ls hW hS hl => ?_)
  obtain ⟨⟨hx, hb, hr, hml, hown, hts, hlocks, hK, hL, hE⟩, htb⟩ := id C0
  unfold f_L_words at h
  refine lv_aload_n hx hb dL_words_0 rfl (lv_at hl 2 rfl) ?_
  refine lv_iconst (v := 0) hx hb dL_words_1 (by decide) ?_
  refine lv_aload_n hx hb dL_words_2 rfl (lv_at hl 0 rfl) ?_
  refine lv_iload_n hx hb dL_words_3 rfl (lv_at hl 1 rfl) ?_
  obtain ⟨g1, h⟩ := zg_some h
  obtain ⟨q2, e3, h⟩ := zb_some h
  refine z_xcalli hS (vx_runV (As := [.int x1]) (rest := [.int (0 : Int32), .ref (ad x2)]) ⟨hx, hb, hml, hown, hts⟩ (m_X6_words l hlt hL N e3 H.size) (cwV 1 hts gL_words_X6_words rfl rfl rfl (by decide +kernel) ⟨Nat.le_of_ble_eq_true rfl, Nat.le_of_ble_eq_true rfl⟩) (z_preV (q := (RX6, TX6, 7)) hK hL hE hW hS (zK_of g1) (by decide) rfl [.int x1]) rfl rfl hl.1 rfl (lv_room (Nat.le_of_ble_eq_true rfl)) dL_words_4 ⟨Nat.le_of_ble_eq_true rfl, Nat.le_of_ble_eq_true rfl⟩) (fun k hk H locs q9 ce hW hS hce hcv hcl => ?_) (fun r4 hk H locs hW hS => ?_)
  · subst hk
    have h := zx_l h
    by_cases hk1 : k = 1
    · subst hk1
      have h := zip rfl h
      refine vx_catch (own := RL) (name := "java/lang/IndexOutOfBoundsException") (E := "java/lang/IndexOutOfBoundsException") hown [] ⟨0, 9, 12, 19⟩ [] htb (fun z hz => by simp at hz) (by decide) (by decide) (hts (.classLink RL 19 "java/lang/IndexOutOfBoundsException") (by decide +kernel)) (va_Nw.use rfl (hE.1 (.castable "java/lang/IndexOutOfBoundsException" "java/lang/IndexOutOfBoundsException") (by decide +kernel))) hce hcv hcl ?_
      refine lv_astore_n (lv' := [(3, .ref q9), (0, .ref (ad x0)), (1, .int x1), (2, .ref (ad x2))]) hx hb dL_words_12 rfl hl (by decide) rfl (fun ls hl => ?_)
      refine lv_iconst (v := 1) hx hb dL_words_13 (by decide) ?_
      refine W.widen (k := 1) (n := 6) (Nat.le_of_ble_eq_true rfl) (Nat.le_of_ble_eq_true rfl) ?_
      exact z_iret hx hb hr hlocks hW hS (congrArg Prod.fst (Option.some.inj h)) (congrArg Prod.snd (Option.some.inj h)) dL_words_14
    · have h := zin hk1 h
      cases h
  subst hk
  have h := zx_r h
  refine lv_i2l hx hb dL_words_7 rfl ?_
  obtain ⟨g5, h⟩ := zg_some h
  refine z_last hx hb hK hL hW hS g5 dL_words_8 (fun H locs hW hS => ?_)
  obtain ⟨M6, eM7, h⟩ := zl_some h
  rw [← eM7] at hW
  refine lv_goto (tgt := 15) hx hb dL_words_9 (by decide) ?_
  refine lv_iconst (v := 0) hx hb dL_words_15 (by decide) ?_
  refine W.widen (k := 1) (n := 6) (Nat.le_of_ble_eq_true rfl) (Nat.le_of_ble_eq_true rfl) ?_
  exact z_iret hx hb hr hlocks hW hS (congrArg Prod.fst (Option.some.inj h)) (congrArg Prod.snd (Option.some.inj h)) dL_words_16
def f_L_kind (N : Nat) (K len : Nat → Nat) (x0 : Nat) (x1 : Int32) (x2 : Int32) (x3 : Nat) (M : ZM) : Option (Int32 × ZM) :=
zg (K x0 == 7) (
(f_X6_kind N K len x0 x1 x2 M).bind fun q2 => (
zx q2 (fun k => (if k = 1 then some ((1 : Int32), M) else none)) fun r4 => (
zg (zok K len x3 12 (0 : Int32)) (
zl (zsJ M x3 (0 : Int32).toNatClampNeg r4.toInt64) fun M6 => (
some ((0 : Int32), M6))))))
set_option maxRecDepth 100000 in
set_option maxHeartbeats 4000000 in
theorem m_L_kind (l : Launch) (hlt : l.stackTraces = false) {D : va_G} {cy : Nat → ClassId} {ad : Nat → Nat} {L : List Nat} {K len : Nat → Nat} (hL : zSh ad L K) (N : Nat) {x0 : Nat} {x1 : Int32} {x2 : Int32} {x3 : Nat} {M Mr : ZM} {r : Int32} (h : f_L_kind N K len x0 x1 x2 x3 M = some (r, Mr)) (sz : Nat) : Met l yL_kind wsL_kind ({ frames := 8, cells := 2, slots := 12, locals := 135 } : Room) (zPre D cy ad L K len sz [.ref (ad x0), .int x1, .int x2, .ref (ad x3)] M) (zQi D cy ad L K len r Mr sz) 2 12 (zA ad L sz) := by
  refine z_wentry (hh := [(0, 10, 13, 19)]) (Qf := fun sz => zQi D cy ad L K len r Mr sz) (av := [.ref (ad x0), .int x1, .int x2, .ref (ad x3)]) (by decide) rfl rfl hL (Nat.le_of_ble_eq_true rfl) (fun p e s m args below meth c C0 H locs ls hW hS hl => ?_)
  obtain ⟨⟨hx, hb, hr, hml, hown, hts, hlocks, hK, hL, hE⟩, htb⟩ := id C0
  unfold f_L_kind at h
  refine lv_aload_n hx hb dL_kind_0 rfl (lv_at hl 3 rfl) ?_
  refine lv_iconst (v := 0) hx hb dL_kind_1 (by decide) ?_
  refine lv_aload_n hx hb dL_kind_2 rfl (lv_at hl 0 rfl) ?_
  refine lv_iload_n hx hb dL_kind_3 rfl (lv_at hl 1 rfl) ?_
  refine lv_iload_n hx hb dL_kind_4 rfl (lv_at hl 2 rfl) ?_
  obtain ⟨g1, h⟩ := zg_some h
  obtain ⟨q2, e3, h⟩ := zb_some h
  refine z_xcalli hS (vx_runV (As := [.int x1, .int x2]) (rest := [.int (0 : Int32), .ref (ad x3)]) ⟨hx, hb, hml, hown, hts⟩ (m_X6_kind l hlt hL N e3 H.size) (cwV 2 hts gL_kind_X6_kind rfl rfl rfl (by decide +kernel) ⟨Nat.le_of_ble_eq_true rfl, Nat.le_of_ble_eq_true rfl⟩) (z_preV (q := (RX6, TX6, 7)) hK hL hE hW hS (zK_of g1) (by decide) rfl [.int x1, .int x2]) rfl rfl hl.1 rfl (lv_room (Nat.le_of_ble_eq_true rfl)) dL_kind_5 ⟨Nat.le_of_ble_eq_true rfl, Nat.le_of_ble_eq_true rfl⟩) (fun k hk H locs q9 ce hW hS hce hcv hcl => ?_) (fun r4 hk H locs hW hS => ?_)
  · subst hk
    have h := zx_l h
    by_cases hk1 : k = 1
    · subst hk1
      have h := zip rfl h
      refine vx_catch (own := RL) (name := "java/lang/IndexOutOfBoundsException") (E := "java/lang/IndexOutOfBoundsException") hown [] ⟨0, 10, 13, 19⟩ [] htb (fun z hz => by simp at hz) (by decide) (by decide) (hts (.classLink RL 19 "java/lang/IndexOutOfBoundsException") (by decide +kernel)) (va_Nw.use rfl (hE.1 (.castable "java/lang/IndexOutOfBoundsException" "java/lang/IndexOutOfBoundsException") (by decide +kernel))) hce hcv hcl ?_
      refine lv_astore (lv' := [(4, .ref q9), (0, .ref (ad x0)), (1, .int x1), (2, .int x2), (3, .ref (ad x3))]) hx hb dL_kind_13 hl (by decide) rfl (fun ls hl => ?_)
      refine lv_iconst (v := 1) hx hb dL_kind_15 (by decide) ?_
      refine W.widen (k := 2) (n := 12) (Nat.le_of_ble_eq_true rfl) (Nat.le_of_ble_eq_true rfl) ?_
      exact z_iret hx hb hr hlocks hW hS (congrArg Prod.fst (Option.some.inj h)) (congrArg Prod.snd (Option.some.inj h)) dL_kind_16
    · have h := zin hk1 h
      cases h
  subst hk
  have h := zx_r h
  refine lv_i2l hx hb dL_kind_8 rfl ?_
  obtain ⟨g5, h⟩ := zg_some h
  refine z_last hx hb hK hL hW hS g5 dL_kind_9 (fun H locs hW hS => ?_)
  obtain ⟨M6, eM7, h⟩ := zl_some h
  rw [← eM7] at hW
  refine lv_goto (tgt := 17) hx hb dL_kind_10 (by decide) ?_
  refine lv_iconst (v := 0) hx hb dL_kind_17 (by decide) ?_
  refine W.widen (k := 2) (n := 12) (Nat.le_of_ble_eq_true rfl) (Nat.le_of_ble_eq_true rfl) ?_
  exact z_iret hx hb hr hlocks hW hS (congrArg Prod.fst (Option.some.inj h)) (congrArg Prod.snd (Option.some.inj h)) dL_kind_18
def f_L_setWeight (N : Nat) (K len : Nat → Nat) (x0 : Nat) (x1 : Int32) (x2 : Int32) (x3 : Nat) (M : ZM) : Option (Int32 × ZM) :=
zg (K x0 == 7) (
zbp (f_X6_setWeight N K len x0 x1 x2 M) fun q2 M4 => (
zx q2 (fun k => (if k = 1 then some ((1 : Int32), M4) else (if k = 2 then some ((2 : Int32), M4) else none))) fun r5 => (
zg (zok K len x3 12 (0 : Int32)) (
zl (zsJ M4 x3 (0 : Int32).toNatClampNeg r5.toInt64) fun M7 => (
some ((0 : Int32), M7))))))
set_option maxRecDepth 100000 in
set_option maxHeartbeats 4000000 in
theorem m_L_setWeight (l : Launch) (hlt : l.stackTraces = false) {D : va_G} {cy : Nat → ClassId} {ad : Nat → Nat} {L : List Nat} {K len : Nat → Nat} (hL : zSh ad L K) (N : Nat) {x0 : Nat} {x1 : Int32} {x2 : Int32} {x3 : Nat} {M Mr : ZM} {r : Int32} (h : f_L_setWeight N K len x0 x1 x2 x3 M = some (r, Mr)) (sz : Nat) : Met l yL_setWeight wsL_setWeight ({ frames := 8, cells := 2, slots := 12, locals := 133 } : Room) (zPre D cy ad L K len sz [.ref (ad x0), .int x1, .int x2, .ref (ad x3)] M) (zQi D cy ad L K len r Mr sz) 2 12 (zA ad L sz) := by
  refine z_wentry (hh := [(0, 10, 13, 19), (0, 10, 17, 21)]) (Qf := fun sz => zQi D cy ad L K len r Mr sz) (av := [.ref (ad x0), .int x1, .int x2, .ref (ad x3)]) (by decide) rfl rfl hL (Nat.le_of_ble_eq_true rfl) (fun p e s m args below meth c C0 H locs ls hW hS hl => ?_)
  obtain ⟨⟨hx, hb, hr, hml, hown, hts, hlocks, hK, hL, hE⟩, htb⟩ := id C0
  unfold f_L_setWeight at h
  refine lv_aload_n hx hb dL_setWeight_0 rfl (lv_at hl 3 rfl) ?_
  refine lv_iconst (v := 0) hx hb dL_setWeight_1 (by decide) ?_
  refine lv_aload_n hx hb dL_setWeight_2 rfl (lv_at hl 0 rfl) ?_
  refine lv_iload_n hx hb dL_setWeight_3 rfl (lv_at hl 1 rfl) ?_
  refine lv_iload_n hx hb dL_setWeight_4 rfl (lv_at hl 2 rfl) ?_
  obtain ⟨g1, h⟩ := zg_some h
  obtain ⟨q2, M4, e3, h⟩ := zbp_some h
  refine z_xcalli hS (vx_runV (As := [.int x1, .int x2]) (rest := [.int (0 : Int32), .ref (ad x3)]) ⟨hx, hb, hml, hown, hts⟩ (m_X6_setWeight l hlt hL N e3 H.size) (cwV 2 hts gL_setWeight_X6_setWeight rfl rfl rfl (by decide +kernel) ⟨Nat.le_of_ble_eq_true rfl, Nat.le_of_ble_eq_true rfl⟩) (z_preV (q := (RX6, TX6, 7)) hK hL hE hW hS (zK_of g1) (by decide) rfl [.int x1, .int x2]) rfl rfl hl.1 rfl (lv_room (Nat.le_of_ble_eq_true rfl)) dL_setWeight_5 ⟨Nat.le_of_ble_eq_true rfl, Nat.le_of_ble_eq_true rfl⟩) (fun k hk H locs q9 ce hW hS hce hcv hcl => ?_) (fun r5 hk H locs hW hS => ?_)
  · subst hk
    have h := zx_l h
    by_cases hk1 : k = 1
    · subst hk1
      have h := zip rfl h
      refine vx_catch (own := RL) (name := "java/lang/IndexOutOfBoundsException") (E := "java/lang/IndexOutOfBoundsException") hown [] ⟨0, 10, 13, 19⟩ [⟨0, 10, 17, 21⟩] htb (fun z hz => by simp at hz) (by decide) (by decide) (hts (.classLink RL 19 "java/lang/IndexOutOfBoundsException") (by decide +kernel)) (va_Nw.use rfl (hE.1 (.castable "java/lang/IndexOutOfBoundsException" "java/lang/IndexOutOfBoundsException") (by decide +kernel))) hce hcv hcl ?_
      refine lv_astore (lv' := [(4, .ref q9), (0, .ref (ad x0)), (1, .int x1), (2, .int x2), (3, .ref (ad x3))]) hx hb dL_setWeight_13 hl (by decide) rfl (fun ls hl => ?_)
      refine lv_iconst (v := 1) hx hb dL_setWeight_15 (by decide) ?_
      refine W.widen (k := 2) (n := 12) (Nat.le_of_ble_eq_true rfl) (Nat.le_of_ble_eq_true rfl) ?_
      exact z_iret hx hb hr hlocks hW hS (congrArg Prod.fst (Option.some.inj h)) (congrArg Prod.snd (Option.some.inj h)) dL_setWeight_16
    · have h := zin hk1 h
      by_cases hk2 : k = 2
      · subst hk2
        have h := zip rfl h
        refine vx_catch (own := RL) (name := "java/lang/IllegalArgumentException") (E := "java/lang/IllegalArgumentException") hown [⟨0, 10, 13, 19⟩] ⟨0, 10, 17, 21⟩ [] htb (fun z hz => by
            simp only [List.mem_cons, List.not_mem_nil, or_false] at hz
            rcases hz with rfl
            · exact Or.inr ⟨by decide, "java/lang/IndexOutOfBoundsException", hts (.classLink RL 19 "java/lang/IndexOutOfBoundsException") (by decide +kernel), hE.2.2.2.2.1 ("java/lang/IllegalArgumentException", "java/lang/IndexOutOfBoundsException") (by decide)⟩
            ) (by decide) (by decide) (hts (.classLink RL 21 "java/lang/IllegalArgumentException") (by decide +kernel)) (va_Nw.use rfl (hE.1 (.castable "java/lang/IllegalArgumentException" "java/lang/IllegalArgumentException") (by decide +kernel))) hce hcv hcl ?_
        refine lv_astore (lv' := [(4, .ref q9), (0, .ref (ad x0)), (1, .int x1), (2, .int x2), (3, .ref (ad x3))]) hx hb dL_setWeight_17 hl (by decide) rfl (fun ls hl => ?_)
        refine lv_iconst (v := 2) hx hb dL_setWeight_19 (by decide) ?_
        refine W.widen (k := 2) (n := 12) (Nat.le_of_ble_eq_true rfl) (Nat.le_of_ble_eq_true rfl) ?_
        exact z_iret hx hb hr hlocks hW hS (congrArg Prod.fst (Option.some.inj h)) (congrArg Prod.snd (Option.some.inj h)) dL_setWeight_20
      · have h := zin hk2 h
        cases h
  subst hk
  have h := zx_r h
  refine lv_i2l hx hb dL_setWeight_8 rfl ?_
  obtain ⟨g6, h⟩ := zg_some h
  refine z_last hx hb hK hL hW hS g6 dL_setWeight_9 (fun H locs hW hS => ?_)
  obtain ⟨M7, eM8, h⟩ := zl_some h
  rw [← eM8] at hW
  refine lv_goto (tgt := 21) hx hb dL_setWeight_10 (by decide) ?_
  refine lv_iconst (v := 0) hx hb dL_setWeight_21 (by decide) ?_
  refine W.widen (k := 2) (n := 12) (Nat.le_of_ble_eq_true rfl) (Nat.le_of_ble_eq_true rfl) ?_
  exact z_iret hx hb hr hlocks hW hS (congrArg Prod.fst (Option.some.inj h)) (congrArg Prod.snd (Option.some.inj h)) dL_setWeight_22
def f_L_weight (N : Nat) (K len : Nat → Nat) (x0 : Nat) (x1 : Int32) (x2 : Nat) (M : ZM) : Option (Int32 × ZM) :=
zg (K x0 == 7) (
(f_X6_weight N K len x0 x1 M).bind fun q2 => (
zx q2 (fun k => (if k = 1 then some ((1 : Int32), M) else none)) fun r4 => (
zg (zok K len x2 12 (0 : Int32)) (
zl (zsJ M x2 (0 : Int32).toNatClampNeg r4.toInt64) fun M6 => (
some ((0 : Int32), M6))))))
set_option maxRecDepth 100000 in
set_option maxHeartbeats 4000000 in
theorem m_L_weight (l : Launch) (hlt : l.stackTraces = false) {D : va_G} {cy : Nat → ClassId} {ad : Nat → Nat} {L : List Nat} {K len : Nat → Nat} (hL : zSh ad L K) (N : Nat) {x0 : Nat} {x1 : Int32} {x2 : Nat} {M Mr : ZM} {r : Int32} (h : f_L_weight N K len x0 x1 x2 M = some (r, Mr)) (sz : Nat) : Met l yL_weight wsL_weight ({ frames := 8, cells := 1, slots := 6, locals := 131 } : Room) (zPre D cy ad L K len sz [.ref (ad x0), .int x1, .ref (ad x2)] M) (zQi D cy ad L K len r Mr sz) 1 6 (zA ad L sz) := by
  refine z_wentry (hh := [(0, 9, 12, 19)]) (Qf := fun sz => zQi D cy ad L K len r Mr sz) (av := [.ref (ad x0), .int x1, .ref (ad x2)]) (by decide) rfl rfl hL (Nat.le_of_ble_eq_true rfl) (fun p e s m args below meth c C0 H locs ls hW hS hl => ?_)
  obtain ⟨⟨hx, hb, hr, hml, hown, hts, hlocks, hK, hL, hE⟩, htb⟩ := id C0
  unfold f_L_weight at h
  refine lv_aload_n hx hb dL_weight_0 rfl (lv_at hl 2 rfl) ?_
  refine lv_iconst (v := 0) hx hb dL_weight_1 (by decide) ?_
  refine lv_aload_n hx hb dL_weight_2 rfl (lv_at hl 0 rfl) ?_
  refine lv_iload_n hx hb dL_weight_3 rfl (lv_at hl 1 rfl) ?_
  obtain ⟨g1, h⟩ := zg_some h
  obtain ⟨q2, e3, h⟩ := zb_some h
  refine z_xcalli hS (vx_runV (As := [.int x1]) (rest := [.int (0 : Int32), .ref (ad x2)]) ⟨hx, hb, hml, hown, hts⟩ (m_X6_weight l hlt hL N e3 H.size) (cwV 1 hts gL_weight_X6_weight rfl rfl rfl (by decide +kernel) ⟨Nat.le_of_ble_eq_true rfl, Nat.le_of_ble_eq_true rfl⟩) (z_preV (q := (RX6, TX6, 7)) hK hL hE hW hS (zK_of g1) (by decide) rfl [.int x1]) rfl rfl hl.1 rfl (lv_room (Nat.le_of_ble_eq_true rfl)) dL_weight_4 ⟨Nat.le_of_ble_eq_true rfl, Nat.le_of_ble_eq_true rfl⟩) (fun k hk H locs q9 ce hW hS hce hcv hcl => ?_) (fun r4 hk H locs hW hS => ?_)
  · subst hk
    have h := zx_l h
    by_cases hk1 : k = 1
    · subst hk1
      have h := zip rfl h
      refine vx_catch (own := RL) (name := "java/lang/IndexOutOfBoundsException") (E := "java/lang/IndexOutOfBoundsException") hown [] ⟨0, 9, 12, 19⟩ [] htb (fun z hz => by simp at hz) (by decide) (by decide) (hts (.classLink RL 19 "java/lang/IndexOutOfBoundsException") (by decide +kernel)) (va_Nw.use rfl (hE.1 (.castable "java/lang/IndexOutOfBoundsException" "java/lang/IndexOutOfBoundsException") (by decide +kernel))) hce hcv hcl ?_
      refine lv_astore_n (lv' := [(3, .ref q9), (0, .ref (ad x0)), (1, .int x1), (2, .ref (ad x2))]) hx hb dL_weight_12 rfl hl (by decide) rfl (fun ls hl => ?_)
      refine lv_iconst (v := 1) hx hb dL_weight_13 (by decide) ?_
      refine W.widen (k := 1) (n := 6) (Nat.le_of_ble_eq_true rfl) (Nat.le_of_ble_eq_true rfl) ?_
      exact z_iret hx hb hr hlocks hW hS (congrArg Prod.fst (Option.some.inj h)) (congrArg Prod.snd (Option.some.inj h)) dL_weight_14
    · have h := zin hk1 h
      cases h
  subst hk
  have h := zx_r h
  refine lv_i2l hx hb dL_weight_7 rfl ?_
  obtain ⟨g5, h⟩ := zg_some h
  refine z_last hx hb hK hL hW hS g5 dL_weight_8 (fun H locs hW hS => ?_)
  obtain ⟨M6, eM7, h⟩ := zl_some h
  rw [← eM7] at hW
  refine lv_goto (tgt := 15) hx hb dL_weight_9 (by decide) ?_
  refine lv_iconst (v := 0) hx hb dL_weight_15 (by decide) ?_
  refine W.widen (k := 1) (n := 6) (Nat.le_of_ble_eq_true rfl) (Nat.le_of_ble_eq_true rfl) ?_
  exact z_iret hx hb hr hlocks hW hS (congrArg Prod.fst (Option.some.inj h)) (congrArg Prod.snd (Option.some.inj h)) dL_weight_16
def f_L_feature (N : Nat) (K len : Nat → Nat) (x0 : Nat) (x1 : Int32) (x2 : Int32) (x3 : Int32) (x4 : Int32) (x5 : Nat) (M : ZM) : Option (Int32 × ZM) :=
zg (K x0 == 7) (
(f_X6_feature N K len x0 x1 x2 x3 x4 M).bind fun q2 => (
zx q2 (fun k => (if k = 1 then some ((1 : Int32), M) else (if k = 2 then some ((2 : Int32), M) else none))) fun r4 => (
zg (zok K len x5 12 (0 : Int32)) (
zl (zsJ M x5 (0 : Int32).toNatClampNeg r4.toInt64) fun M6 => (
some ((0 : Int32), M6))))))
set_option maxRecDepth 100000 in
set_option maxHeartbeats 4000000 in
theorem m_L_feature (l : Launch) (hlt : l.stackTraces = false) {D : va_G} {cy : Nat → ClassId} {ad : Nat → Nat} {L : List Nat} {K len : Nat → Nat} (hL : zSh ad L K) (N : Nat) {x0 : Nat} {x1 : Int32} {x2 : Int32} {x3 : Int32} {x4 : Int32} {x5 : Nat} {M Mr : ZM} {r : Int32} (h : f_L_feature N K len x0 x1 x2 x3 x4 x5 M = some (r, Mr)) (sz : Nat) : Met l yL_feature wsL_feature ({ frames := 9, cells := 3, slots := 18, locals := 158 } : Room) (zPre D cy ad L K len sz [.ref (ad x0), .int x1, .int x2, .int x3, .int x4, .ref (ad x5)] M) (zQi D cy ad L K len r Mr sz) 3 18 (zA ad L sz) := by
  refine z_wentry (hh := [(0, 14, 17, 19), (0, 14, 21, 21)]) (Qf := fun sz => zQi D cy ad L K len r Mr sz) (av := [.ref (ad x0), .int x1, .int x2, .int x3, .int x4, .ref (ad x5)]) (by decide) rfl rfl hL (Nat.le_of_ble_eq_true rfl) (fun p e s m args below meth c C0 H locs ls hW hS hl => ?_)
  obtain ⟨⟨hx, hb, hr, hml, hown, hts, hlocks, hK, hL, hE⟩, htb⟩ := id C0
  unfold f_L_feature at h
  refine lv_aload hx hb dL_feature_0 (lv_at hl 5 rfl) ?_
  refine lv_iconst (v := 0) hx hb dL_feature_2 (by decide) ?_
  refine lv_aload_n hx hb dL_feature_3 rfl (lv_at hl 0 rfl) ?_
  refine lv_iload_n hx hb dL_feature_4 rfl (lv_at hl 1 rfl) ?_
  refine lv_iload_n hx hb dL_feature_5 rfl (lv_at hl 2 rfl) ?_
  refine lv_iload_n hx hb dL_feature_6 rfl (lv_at hl 3 rfl) ?_
  refine lv_iload hx hb dL_feature_7 (lv_at hl 4 rfl) ?_
  obtain ⟨g1, h⟩ := zg_some h
  obtain ⟨q2, e3, h⟩ := zb_some h
  refine z_xcalli hS (vx_runV (As := [.int x1, .int x2, .int x3, .int x4]) (rest := [.int (0 : Int32), .ref (ad x5)]) ⟨hx, hb, hml, hown, hts⟩ (m_X6_feature l hlt hL N e3 H.size) (cwV 4 hts gL_feature_X6_feature rfl rfl rfl (by decide +kernel) ⟨Nat.le_of_ble_eq_true rfl, Nat.le_of_ble_eq_true rfl⟩) (z_preV (q := (RX6, TX6, 7)) hK hL hE hW hS (zK_of g1) (by decide) rfl [.int x1, .int x2, .int x3, .int x4]) rfl rfl hl.1 rfl (lv_room (Nat.le_of_ble_eq_true rfl)) dL_feature_9 ⟨Nat.le_of_ble_eq_true rfl, Nat.le_of_ble_eq_true rfl⟩) (fun k hk H locs q9 ce hW hS hce hcv hcl => ?_) (fun r4 hk H locs hW hS => ?_)
  · subst hk
    have h := zx_l h
    by_cases hk1 : k = 1
    · subst hk1
      have h := zip rfl h
      refine vx_catch (own := RL) (name := "java/lang/IndexOutOfBoundsException") (E := "java/lang/IndexOutOfBoundsException") hown [] ⟨0, 14, 17, 19⟩ [⟨0, 14, 21, 21⟩] htb (fun z hz => by simp at hz) (by decide) (by decide) (hts (.classLink RL 19 "java/lang/IndexOutOfBoundsException") (by decide +kernel)) (va_Nw.use rfl (hE.1 (.castable "java/lang/IndexOutOfBoundsException" "java/lang/IndexOutOfBoundsException") (by decide +kernel))) hce hcv hcl ?_
      refine lv_astore (lv' := [(6, .ref q9), (0, .ref (ad x0)), (1, .int x1), (2, .int x2), (3, .int x3), (4, .int x4), (5, .ref (ad x5))]) hx hb dL_feature_17 hl (by decide) rfl (fun ls hl => ?_)
      refine lv_iconst (v := 1) hx hb dL_feature_19 (by decide) ?_
      refine W.widen (k := 3) (n := 18) (Nat.le_of_ble_eq_true rfl) (Nat.le_of_ble_eq_true rfl) ?_
      exact z_iret hx hb hr hlocks hW hS (congrArg Prod.fst (Option.some.inj h)) (congrArg Prod.snd (Option.some.inj h)) dL_feature_20
    · have h := zin hk1 h
      by_cases hk2 : k = 2
      · subst hk2
        have h := zip rfl h
        refine vx_catch (own := RL) (name := "java/lang/IllegalArgumentException") (E := "java/lang/IllegalArgumentException") hown [⟨0, 14, 17, 19⟩] ⟨0, 14, 21, 21⟩ [] htb (fun z hz => by
            simp only [List.mem_cons, List.not_mem_nil, or_false] at hz
            rcases hz with rfl
            · exact Or.inr ⟨by decide, "java/lang/IndexOutOfBoundsException", hts (.classLink RL 19 "java/lang/IndexOutOfBoundsException") (by decide +kernel), hE.2.2.2.2.1 ("java/lang/IllegalArgumentException", "java/lang/IndexOutOfBoundsException") (by decide)⟩
            ) (by decide) (by decide) (hts (.classLink RL 21 "java/lang/IllegalArgumentException") (by decide +kernel)) (va_Nw.use rfl (hE.1 (.castable "java/lang/IllegalArgumentException" "java/lang/IllegalArgumentException") (by decide +kernel))) hce hcv hcl ?_
        refine lv_astore (lv' := [(6, .ref q9), (0, .ref (ad x0)), (1, .int x1), (2, .int x2), (3, .int x3), (4, .int x4), (5, .ref (ad x5))]) hx hb dL_feature_21 hl (by decide) rfl (fun ls hl => ?_)
        refine lv_iconst (v := 2) hx hb dL_feature_23 (by decide) ?_
        refine W.widen (k := 3) (n := 18) (Nat.le_of_ble_eq_true rfl) (Nat.le_of_ble_eq_true rfl) ?_
        exact z_iret hx hb hr hlocks hW hS (congrArg Prod.fst (Option.some.inj h)) (congrArg Prod.snd (Option.some.inj h)) dL_feature_24
      · have h := zin hk2 h
        cases h
  subst hk
  have h := zx_r h
  refine lv_i2l hx hb dL_feature_12 rfl ?_
  obtain ⟨g5, h⟩ := zg_some h
  refine z_last hx hb hK hL hW hS g5 dL_feature_13 (fun H locs hW hS => ?_)
  obtain ⟨M6, eM7, h⟩ := zl_some h
  rw [← eM7] at hW
  refine lv_goto (tgt := 25) hx hb dL_feature_14 (by decide) ?_
  refine lv_iconst (v := 0) hx hb dL_feature_25 (by decide) ?_
  refine W.widen (k := 3) (n := 18) (Nat.le_of_ble_eq_true rfl) (Nat.le_of_ble_eq_true rfl) ?_
  exact z_iret hx hb hr hlocks hW hS (congrArg Prod.fst (Option.some.inj h)) (congrArg Prod.snd (Option.some.inj h)) dL_feature_26
def f_L_score (N : Nat) (K len : Nat → Nat) (x0 : Nat) (x1 : Int32) (x2 : Int32) (x3 : Int32) (x4 : Nat) (M : ZM) : Option (Int32 × ZM) :=
zg (K x0 == 7) (
(f_X6_score N K len x0 x1 x2 x3 M).bind fun q2 => (
zx q2 (fun k => (if k = 1 then some ((1 : Int32), M) else (if k = 2 then some ((2 : Int32), M) else none))) fun r4 => (
zg (zok K len x4 12 (0 : Int32)) (
zl (zsJ M x4 (0 : Int32).toNatClampNeg r4.toInt64) fun M6 => (
some ((0 : Int32), M6))))))
set_option maxRecDepth 100000 in
set_option maxHeartbeats 4000000 in
theorem m_L_score (l : Launch) (hlt : l.stackTraces = false) {D : va_G} {cy : Nat → ClassId} {ad : Nat → Nat} {L : List Nat} {K len : Nat → Nat} (hL : zSh ad L K) (N : Nat) {x0 : Nat} {x1 : Int32} {x2 : Int32} {x3 : Int32} {x4 : Nat} {M Mr : ZM} {r : Int32} (h : f_L_score N K len x0 x1 x2 x3 x4 M = some (r, Mr)) (sz : Nat) : Met l yL_score wsL_score ({ frames := 9, cells := 3, slots := 18, locals := 157 } : Room) (zPre D cy ad L K len sz [.ref (ad x0), .int x1, .int x2, .int x3, .ref (ad x4)] M) (zQi D cy ad L K len r Mr sz) 3 18 (zA ad L sz) := by
  refine z_wentry (hh := [(0, 12, 15, 19), (0, 12, 19, 21)]) (Qf := fun sz => zQi D cy ad L K len r Mr sz) (av := [.ref (ad x0), .int x1, .int x2, .int x3, .ref (ad x4)]) (by decide) rfl rfl hL (Nat.le_of_ble_eq_true rfl) (fun p e s m args below meth c C0 H locs ls hW hS hl => ?_)
  obtain ⟨⟨hx, hb, hr, hml, hown, hts, hlocks, hK, hL, hE⟩, htb⟩ := id C0
  unfold f_L_score at h
  refine lv_aload hx hb dL_score_0 (lv_at hl 4 rfl) ?_
  refine lv_iconst (v := 0) hx hb dL_score_2 (by decide) ?_
  refine lv_aload_n hx hb dL_score_3 rfl (lv_at hl 0 rfl) ?_
  refine lv_iload_n hx hb dL_score_4 rfl (lv_at hl 1 rfl) ?_
  refine lv_iload_n hx hb dL_score_5 rfl (lv_at hl 2 rfl) ?_
  refine lv_iload_n hx hb dL_score_6 rfl (lv_at hl 3 rfl) ?_
  obtain ⟨g1, h⟩ := zg_some h
  obtain ⟨q2, e3, h⟩ := zb_some h
  refine z_xcalli hS (vx_runV (As := [.int x1, .int x2, .int x3]) (rest := [.int (0 : Int32), .ref (ad x4)]) ⟨hx, hb, hml, hown, hts⟩ (m_X6_score l hlt hL N e3 H.size) (cwV 3 hts gL_score_X6_score rfl rfl rfl (by decide +kernel) ⟨Nat.le_of_ble_eq_true rfl, Nat.le_of_ble_eq_true rfl⟩) (z_preV (q := (RX6, TX6, 7)) hK hL hE hW hS (zK_of g1) (by decide) rfl [.int x1, .int x2, .int x3]) rfl rfl hl.1 rfl (lv_room (Nat.le_of_ble_eq_true rfl)) dL_score_7 ⟨Nat.le_of_ble_eq_true rfl, Nat.le_of_ble_eq_true rfl⟩) (fun k hk H locs q9 ce hW hS hce hcv hcl => ?_) (fun r4 hk H locs hW hS => ?_)
  · subst hk
    have h := zx_l h
    by_cases hk1 : k = 1
    · subst hk1
      have h := zip rfl h
      refine vx_catch (own := RL) (name := "java/lang/IndexOutOfBoundsException") (E := "java/lang/IndexOutOfBoundsException") hown [] ⟨0, 12, 15, 19⟩ [⟨0, 12, 19, 21⟩] htb (fun z hz => by simp at hz) (by decide) (by decide) (hts (.classLink RL 19 "java/lang/IndexOutOfBoundsException") (by decide +kernel)) (va_Nw.use rfl (hE.1 (.castable "java/lang/IndexOutOfBoundsException" "java/lang/IndexOutOfBoundsException") (by decide +kernel))) hce hcv hcl ?_
      refine lv_astore (lv' := [(5, .ref q9), (0, .ref (ad x0)), (1, .int x1), (2, .int x2), (3, .int x3), (4, .ref (ad x4))]) hx hb dL_score_15 hl (by decide) rfl (fun ls hl => ?_)
      refine lv_iconst (v := 1) hx hb dL_score_17 (by decide) ?_
      refine W.widen (k := 3) (n := 18) (Nat.le_of_ble_eq_true rfl) (Nat.le_of_ble_eq_true rfl) ?_
      exact z_iret hx hb hr hlocks hW hS (congrArg Prod.fst (Option.some.inj h)) (congrArg Prod.snd (Option.some.inj h)) dL_score_18
    · have h := zin hk1 h
      by_cases hk2 : k = 2
      · subst hk2
        have h := zip rfl h
        refine vx_catch (own := RL) (name := "java/lang/IllegalArgumentException") (E := "java/lang/IllegalArgumentException") hown [⟨0, 12, 15, 19⟩] ⟨0, 12, 19, 21⟩ [] htb (fun z hz => by
            simp only [List.mem_cons, List.not_mem_nil, or_false] at hz
            rcases hz with rfl
            · exact Or.inr ⟨by decide, "java/lang/IndexOutOfBoundsException", hts (.classLink RL 19 "java/lang/IndexOutOfBoundsException") (by decide +kernel), hE.2.2.2.2.1 ("java/lang/IllegalArgumentException", "java/lang/IndexOutOfBoundsException") (by decide)⟩
            ) (by decide) (by decide) (hts (.classLink RL 21 "java/lang/IllegalArgumentException") (by decide +kernel)) (va_Nw.use rfl (hE.1 (.castable "java/lang/IllegalArgumentException" "java/lang/IllegalArgumentException") (by decide +kernel))) hce hcv hcl ?_
        refine lv_astore (lv' := [(5, .ref q9), (0, .ref (ad x0)), (1, .int x1), (2, .int x2), (3, .int x3), (4, .ref (ad x4))]) hx hb dL_score_19 hl (by decide) rfl (fun ls hl => ?_)
        refine lv_iconst (v := 2) hx hb dL_score_21 (by decide) ?_
        refine W.widen (k := 3) (n := 18) (Nat.le_of_ble_eq_true rfl) (Nat.le_of_ble_eq_true rfl) ?_
        exact z_iret hx hb hr hlocks hW hS (congrArg Prod.fst (Option.some.inj h)) (congrArg Prod.snd (Option.some.inj h)) dL_score_22
      · have h := zin hk2 h
        cases h
  subst hk
  have h := zx_r h
  refine lv_i2l hx hb dL_score_10 rfl ?_
  obtain ⟨g5, h⟩ := zg_some h
  refine z_last hx hb hK hL hW hS g5 dL_score_11 (fun H locs hW hS => ?_)
  obtain ⟨M6, eM7, h⟩ := zl_some h
  rw [← eM7] at hW
  refine lv_goto (tgt := 23) hx hb dL_score_12 (by decide) ?_
  refine lv_iconst (v := 0) hx hb dL_score_23 (by decide) ?_
  refine W.widen (k := 3) (n := 18) (Nat.le_of_ble_eq_true rfl) (Nat.le_of_ble_eq_true rfl) ?_
  exact z_iret hx hb hr hlocks hW hS (congrArg Prod.fst (Option.some.inj h)) (congrArg Prod.snd (Option.some.inj h)) dL_score_24
def f_L_mark (N : Nat) (K len : Nat → Nat) (x0 : Nat) (x1 : Int32) (x2 : Int32) (x3 : Int32) (x4 : Int32) (x5 : Nat) (M : ZM) : Option (Int32 × ZM) :=
zg (K x0 == 7) (
zbp (f_X6_mark N K len x0 x1 x2 x3 x4 M) fun q2 M4 => (
zx q2 (fun k => (if k = 1 then some ((1 : Int32), M4) else (if k = 2 then some ((2 : Int32), M4) else (if k = 3 then some ((3 : Int32), M4) else none)))) fun r5 => (
zg (zok K len x5 12 (0 : Int32)) (
zl (zsJ M4 x5 (0 : Int32).toNatClampNeg r5.toInt64) fun M7 => (
some ((0 : Int32), M7))))))
set_option maxRecDepth 100000 in
set_option maxHeartbeats 4000000 in
theorem m_L_mark (l : Launch) (hlt : l.stackTraces = false) {D : va_G} {cy : Nat → ClassId} {ad : Nat → Nat} {L : List Nat} {K len : Nat → Nat} (hL : zSh ad L K) (N : Nat) {x0 : Nat} {x1 : Int32} {x2 : Int32} {x3 : Int32} {x4 : Int32} {x5 : Nat} {M Mr : ZM} {r : Int32} (h : f_L_mark N K len x0 x1 x2 x3 x4 x5 M = some (r, Mr)) (sz : Nat) : Met l yL_mark wsL_mark ({ frames := 9, cells := 4, slots := 24, locals := 159 } : Room) (zPre D cy ad L K len sz [.ref (ad x0), .int x1, .int x2, .int x3, .int x4, .ref (ad x5)] M) (zQi D cy ad L K len r Mr sz) 4 24 (zA ad L sz) := by
  refine z_wentry (hh := [(0, 14, 17, 19), (0, 14, 21, 21), (0, 14, 25, 13)]) (Qf := fun sz => zQi D cy ad L K len r Mr sz) (av := [.ref (ad x0), .int x1, .int x2, .int x3, .int x4, .ref (ad x5)]) (by decide) rfl rfl hL (Nat.le_of_ble_eq_true rfl) (fun p e s m args below meth c C0 H locs ls hW hS hl => ?_)
  obtain ⟨⟨hx, hb, hr, hml, hown, hts, hlocks, hK, hL, hE⟩, htb⟩ := id C0
  unfold f_L_mark at h
  refine lv_aload hx hb dL_mark_0 (lv_at hl 5 rfl) ?_
  refine lv_iconst (v := 0) hx hb dL_mark_2 (by decide) ?_
  refine lv_aload_n hx hb dL_mark_3 rfl (lv_at hl 0 rfl) ?_
  refine lv_iload_n hx hb dL_mark_4 rfl (lv_at hl 1 rfl) ?_
  refine lv_iload_n hx hb dL_mark_5 rfl (lv_at hl 2 rfl) ?_
  refine lv_iload_n hx hb dL_mark_6 rfl (lv_at hl 3 rfl) ?_
  refine lv_iload hx hb dL_mark_7 (lv_at hl 4 rfl) ?_
  obtain ⟨g1, h⟩ := zg_some h
  obtain ⟨q2, M4, e3, h⟩ := zbp_some h
  refine z_xcalli hS (vx_runV (As := [.int x1, .int x2, .int x3, .int x4]) (rest := [.int (0 : Int32), .ref (ad x5)]) ⟨hx, hb, hml, hown, hts⟩ (m_X6_mark l hlt hL N e3 H.size) (cwV 4 hts gL_mark_X6_mark rfl rfl rfl (by decide +kernel) ⟨Nat.le_of_ble_eq_true rfl, Nat.le_of_ble_eq_true rfl⟩) (z_preV (q := (RX6, TX6, 7)) hK hL hE hW hS (zK_of g1) (by decide) rfl [.int x1, .int x2, .int x3, .int x4]) rfl rfl hl.1 rfl (lv_room (Nat.le_of_ble_eq_true rfl)) dL_mark_9 ⟨Nat.le_of_ble_eq_true rfl, Nat.le_of_ble_eq_true rfl⟩) (fun k hk H locs q9 ce hW hS hce hcv hcl => ?_) (fun r5 hk H locs hW hS => ?_)
  · subst hk
    have h := zx_l h
    by_cases hk1 : k = 1
    · subst hk1
      have h := zip rfl h
      refine vx_catch (own := RL) (name := "java/lang/IndexOutOfBoundsException") (E := "java/lang/IndexOutOfBoundsException") hown [] ⟨0, 14, 17, 19⟩ [⟨0, 14, 21, 21⟩, ⟨0, 14, 25, 13⟩] htb (fun z hz => by simp at hz) (by decide) (by decide) (hts (.classLink RL 19 "java/lang/IndexOutOfBoundsException") (by decide +kernel)) (va_Nw.use rfl (hE.1 (.castable "java/lang/IndexOutOfBoundsException" "java/lang/IndexOutOfBoundsException") (by decide +kernel))) hce hcv hcl ?_
      refine lv_astore (lv' := [(6, .ref q9), (0, .ref (ad x0)), (1, .int x1), (2, .int x2), (3, .int x3), (4, .int x4), (5, .ref (ad x5))]) hx hb dL_mark_17 hl (by decide) rfl (fun ls hl => ?_)
      refine lv_iconst (v := 1) hx hb dL_mark_19 (by decide) ?_
      refine W.widen (k := 4) (n := 24) (Nat.le_of_ble_eq_true rfl) (Nat.le_of_ble_eq_true rfl) ?_
      exact z_iret hx hb hr hlocks hW hS (congrArg Prod.fst (Option.some.inj h)) (congrArg Prod.snd (Option.some.inj h)) dL_mark_20
    · have h := zin hk1 h
      by_cases hk2 : k = 2
      · subst hk2
        have h := zip rfl h
        refine vx_catch (own := RL) (name := "java/lang/IllegalArgumentException") (E := "java/lang/IllegalArgumentException") hown [⟨0, 14, 17, 19⟩] ⟨0, 14, 21, 21⟩ [⟨0, 14, 25, 13⟩] htb (fun z hz => by
            simp only [List.mem_cons, List.not_mem_nil, or_false] at hz
            rcases hz with rfl
            · exact Or.inr ⟨by decide, "java/lang/IndexOutOfBoundsException", hts (.classLink RL 19 "java/lang/IndexOutOfBoundsException") (by decide +kernel), hE.2.2.2.2.1 ("java/lang/IllegalArgumentException", "java/lang/IndexOutOfBoundsException") (by decide)⟩
            ) (by decide) (by decide) (hts (.classLink RL 21 "java/lang/IllegalArgumentException") (by decide +kernel)) (va_Nw.use rfl (hE.1 (.castable "java/lang/IllegalArgumentException" "java/lang/IllegalArgumentException") (by decide +kernel))) hce hcv hcl ?_
        refine lv_astore (lv' := [(6, .ref q9), (0, .ref (ad x0)), (1, .int x1), (2, .int x2), (3, .int x3), (4, .int x4), (5, .ref (ad x5))]) hx hb dL_mark_21 hl (by decide) rfl (fun ls hl => ?_)
        refine lv_iconst (v := 2) hx hb dL_mark_23 (by decide) ?_
        refine W.widen (k := 4) (n := 24) (Nat.le_of_ble_eq_true rfl) (Nat.le_of_ble_eq_true rfl) ?_
        exact z_iret hx hb hr hlocks hW hS (congrArg Prod.fst (Option.some.inj h)) (congrArg Prod.snd (Option.some.inj h)) dL_mark_24
      · have h := zin hk2 h
        by_cases hk3 : k = 3
        · subst hk3
          have h := zip rfl h
          refine vx_catch (own := RL) (name := "java/lang/IllegalStateException") (E := "java/lang/IllegalStateException") hown [⟨0, 14, 17, 19⟩, ⟨0, 14, 21, 21⟩] ⟨0, 14, 25, 13⟩ [] htb (fun z hz => by
              simp only [List.mem_cons, List.not_mem_nil, or_false] at hz
              rcases hz with rfl | rfl
              · exact Or.inr ⟨by decide, "java/lang/IndexOutOfBoundsException", hts (.classLink RL 19 "java/lang/IndexOutOfBoundsException") (by decide +kernel), hE.2.2.2.2.1 ("java/lang/IllegalStateException", "java/lang/IndexOutOfBoundsException") (by decide)⟩
              · exact Or.inr ⟨by decide, "java/lang/IllegalArgumentException", hts (.classLink RL 21 "java/lang/IllegalArgumentException") (by decide +kernel), hE.2.2.2.2.1 ("java/lang/IllegalStateException", "java/lang/IllegalArgumentException") (by decide)⟩
              ) (by decide) (by decide) (hts (.classLink RL 13 "java/lang/IllegalStateException") (by decide +kernel)) (va_Nw.use rfl (hE.1 (.castable "java/lang/IllegalStateException" "java/lang/IllegalStateException") (by decide +kernel))) hce hcv hcl ?_
          refine lv_astore (lv' := [(6, .ref q9), (0, .ref (ad x0)), (1, .int x1), (2, .int x2), (3, .int x3), (4, .int x4), (5, .ref (ad x5))]) hx hb dL_mark_25 hl (by decide) rfl (fun ls hl => ?_)
          refine lv_iconst (v := 3) hx hb dL_mark_27 (by decide) ?_
          refine W.widen (k := 4) (n := 24) (Nat.le_of_ble_eq_true rfl) (Nat.le_of_ble_eq_true rfl) ?_
          exact z_iret hx hb hr hlocks hW hS (congrArg Prod.fst (Option.some.inj h)) (congrArg Prod.snd (Option.some.inj h)) dL_mark_28
        · have h := zin hk3 h
          cases h
  subst hk
  have h := zx_r h
  refine lv_i2l hx hb dL_mark_12 rfl ?_
  obtain ⟨g6, h⟩ := zg_some h
  refine z_last hx hb hK hL hW hS g6 dL_mark_13 (fun H locs hW hS => ?_)
  obtain ⟨M7, eM8, h⟩ := zl_some h
  rw [← eM8] at hW
  refine lv_goto (tgt := 29) hx hb dL_mark_14 (by decide) ?_
  refine lv_iconst (v := 0) hx hb dL_mark_29 (by decide) ?_
  refine W.widen (k := 4) (n := 24) (Nat.le_of_ble_eq_true rfl) (Nat.le_of_ble_eq_true rfl) ?_
  exact z_iret hx hb hr hlocks hW hS (congrArg Prod.fst (Option.some.inj h)) (congrArg Prod.snd (Option.some.inj h)) dL_mark_30
def f_L_trees (N : Nat) (K len : Nat → Nat) (x0 : Nat) (x1 : Int32) (x2 : Int32) (x3 : Nat) (M : ZM) : Option (Int32 × ZM) :=
zg (K x0 == 7) (
zbp (f_X6_trees N K len x0 x1 x2 M) fun q2 M4 => (
zx q2 (fun k => (if k = 1 then some ((1 : Int32), M4) else none)) fun r5 => (
zg (zok K len x3 12 (0 : Int32)) (
zl (zsJ M4 x3 (0 : Int32).toNatClampNeg r5.toInt64) fun M7 => (
some ((0 : Int32), M7))))))
set_option maxRecDepth 100000 in
set_option maxHeartbeats 4000000 in
theorem m_L_trees (l : Launch) (hlt : l.stackTraces = false) {D : va_G} {cy : Nat → ClassId} {ad : Nat → Nat} {L : List Nat} {K len : Nat → Nat} (hL : zSh ad L K) (N : Nat) {x0 : Nat} {x1 : Int32} {x2 : Int32} {x3 : Nat} {M Mr : ZM} {r : Int32} (h : f_L_trees N K len x0 x1 x2 x3 M = some (r, Mr)) (sz : Nat) : Met l yL_trees wsL_trees ({ frames := 15, cells := 1, slots := 6, locals := 392 } : Room) (zPre D cy ad L K len sz [.ref (ad x0), .int x1, .int x2, .ref (ad x3)] M) (zQi D cy ad L K len r Mr sz) 1 6 (zA ad L sz) := by
  refine z_wentry (hh := [(0, 10, 13, 19)]) (Qf := fun sz => zQi D cy ad L K len r Mr sz) (av := [.ref (ad x0), .int x1, .int x2, .ref (ad x3)]) (by decide) rfl rfl hL (Nat.le_of_ble_eq_true rfl) (fun p e s m args below meth c C0 H locs ls hW hS hl => ?_)
  obtain ⟨⟨hx, hb, hr, hml, hown, hts, hlocks, hK, hL, hE⟩, htb⟩ := id C0
  unfold f_L_trees at h
  refine lv_aload_n hx hb dL_trees_0 rfl (lv_at hl 3 rfl) ?_
  refine lv_iconst (v := 0) hx hb dL_trees_1 (by decide) ?_
  refine lv_aload_n hx hb dL_trees_2 rfl (lv_at hl 0 rfl) ?_
  refine lv_iload_n hx hb dL_trees_3 rfl (lv_at hl 1 rfl) ?_
  refine lv_iload_n hx hb dL_trees_4 rfl (lv_at hl 2 rfl) ?_
  obtain ⟨g1, h⟩ := zg_some h
  obtain ⟨q2, M4, e3, h⟩ := zbp_some h
  refine z_xcalli hS (vx_runV (As := [.int x1, .int x2]) (rest := [.int (0 : Int32), .ref (ad x3)]) ⟨hx, hb, hml, hown, hts⟩ (m_X6_trees l hlt hL N e3 H.size) (cwV 2 hts gL_trees_X6_trees rfl rfl rfl (by decide +kernel) ⟨Nat.le_of_ble_eq_true rfl, Nat.le_of_ble_eq_true rfl⟩) (z_preV (q := (RX6, TX6, 7)) hK hL hE hW hS (zK_of g1) (by decide) rfl [.int x1, .int x2]) rfl rfl hl.1 rfl (lv_room (Nat.le_of_ble_eq_true rfl)) dL_trees_5 ⟨Nat.le_of_ble_eq_true rfl, Nat.le_of_ble_eq_true rfl⟩) (fun k hk H locs q9 ce hW hS hce hcv hcl => ?_) (fun r5 hk H locs hW hS => ?_)
  · subst hk
    have h := zx_l h
    by_cases hk1 : k = 1
    · subst hk1
      have h := zip rfl h
      refine vx_catch (own := RL) (name := "java/lang/IndexOutOfBoundsException") (E := "java/lang/IndexOutOfBoundsException") hown [] ⟨0, 10, 13, 19⟩ [] htb (fun z hz => by simp at hz) (by decide) (by decide) (hts (.classLink RL 19 "java/lang/IndexOutOfBoundsException") (by decide +kernel)) (va_Nw.use rfl (hE.1 (.castable "java/lang/IndexOutOfBoundsException" "java/lang/IndexOutOfBoundsException") (by decide +kernel))) hce hcv hcl ?_
      refine lv_astore (lv' := [(4, .ref q9), (0, .ref (ad x0)), (1, .int x1), (2, .int x2), (3, .ref (ad x3))]) hx hb dL_trees_13 hl (by decide) rfl (fun ls hl => ?_)
      refine lv_iconst (v := 1) hx hb dL_trees_15 (by decide) ?_
      refine W.widen (k := 1) (n := 6) (Nat.le_of_ble_eq_true rfl) (Nat.le_of_ble_eq_true rfl) ?_
      exact z_iret hx hb hr hlocks hW hS (congrArg Prod.fst (Option.some.inj h)) (congrArg Prod.snd (Option.some.inj h)) dL_trees_16
    · have h := zin hk1 h
      cases h
  subst hk
  have h := zx_r h
  refine lv_i2l hx hb dL_trees_8 rfl ?_
  obtain ⟨g6, h⟩ := zg_some h
  refine z_last hx hb hK hL hW hS g6 dL_trees_9 (fun H locs hW hS => ?_)
  obtain ⟨M7, eM8, h⟩ := zl_some h
  rw [← eM8] at hW
  refine lv_goto (tgt := 17) hx hb dL_trees_10 (by decide) ?_
  refine lv_iconst (v := 0) hx hb dL_trees_17 (by decide) ?_
  refine W.widen (k := 1) (n := 6) (Nat.le_of_ble_eq_true rfl) (Nat.le_of_ble_eq_true rfl) ?_
  exact z_iret hx hb hr hlocks hW hS (congrArg Prod.fst (Option.some.inj h)) (congrArg Prod.snd (Option.some.inj h)) dL_trees_18
def f_L_best (N : Nat) (K len : Nat → Nat) (x0 : Nat) (x1 : Int32) (x2 : Int32) (x3 : Nat) (M : ZM) : Option (Int32 × ZM) :=
zg (K x0 == 7) (
zbp (f_X6_best N K len x0 x1 x2 M) fun q2 M4 => (
zx q2 (fun k => (if k = 1 then some ((1 : Int32), M4) else (if k = 3 then some ((2 : Int32), M4) else none))) fun r5 => (
zg (zok K len x3 12 (0 : Int32)) (
zl (zsJ M4 x3 (0 : Int32).toNatClampNeg r5.toInt64) fun M7 => (
some ((0 : Int32), M7))))))
set_option maxRecDepth 100000 in
set_option maxHeartbeats 4000000 in
theorem m_L_best (l : Launch) (hlt : l.stackTraces = false) {D : va_G} {cy : Nat → ClassId} {ad : Nat → Nat} {L : List Nat} {K len : Nat → Nat} (hL : zSh ad L K) (N : Nat) {x0 : Nat} {x1 : Int32} {x2 : Int32} {x3 : Nat} {M Mr : ZM} {r : Int32} (h : f_L_best N K len x0 x1 x2 x3 M = some (r, Mr)) (sz : Nat) : Met l yL_best wsL_best ({ frames := 9, cells := 2, slots := 12, locals := 157 } : Room) (zPre D cy ad L K len sz [.ref (ad x0), .int x1, .int x2, .ref (ad x3)] M) (zQi D cy ad L K len r Mr sz) 2 12 (zA ad L sz) := by
  refine z_wentry (hh := [(0, 10, 13, 19), (0, 10, 17, 13)]) (Qf := fun sz => zQi D cy ad L K len r Mr sz) (av := [.ref (ad x0), .int x1, .int x2, .ref (ad x3)]) (by decide) rfl rfl hL (Nat.le_of_ble_eq_true rfl) (fun p e s m args below meth c C0 H locs ls hW hS hl => ?_)
  obtain ⟨⟨hx, hb, hr, hml, hown, hts, hlocks, hK, hL, hE⟩, htb⟩ := id C0
  unfold f_L_best at h
  refine lv_aload_n hx hb dL_best_0 rfl (lv_at hl 3 rfl) ?_
  refine lv_iconst (v := 0) hx hb dL_best_1 (by decide) ?_
  refine lv_aload_n hx hb dL_best_2 rfl (lv_at hl 0 rfl) ?_
  refine lv_iload_n hx hb dL_best_3 rfl (lv_at hl 1 rfl) ?_
  refine lv_iload_n hx hb dL_best_4 rfl (lv_at hl 2 rfl) ?_
  obtain ⟨g1, h⟩ := zg_some h
  obtain ⟨q2, M4, e3, h⟩ := zbp_some h
  refine z_xcalli hS (vx_runV (As := [.int x1, .int x2]) (rest := [.int (0 : Int32), .ref (ad x3)]) ⟨hx, hb, hml, hown, hts⟩ (m_X6_best l hlt hL N e3 H.size) (cwV 2 hts gL_best_X6_best rfl rfl rfl (by decide +kernel) ⟨Nat.le_of_ble_eq_true rfl, Nat.le_of_ble_eq_true rfl⟩) (z_preV (q := (RX6, TX6, 7)) hK hL hE hW hS (zK_of g1) (by decide) rfl [.int x1, .int x2]) rfl rfl hl.1 rfl (lv_room (Nat.le_of_ble_eq_true rfl)) dL_best_5 ⟨Nat.le_of_ble_eq_true rfl, Nat.le_of_ble_eq_true rfl⟩) (fun k hk H locs q9 ce hW hS hce hcv hcl => ?_) (fun r5 hk H locs hW hS => ?_)
  · subst hk
    have h := zx_l h
    by_cases hk1 : k = 1
    · subst hk1
      have h := zip rfl h
      refine vx_catch (own := RL) (name := "java/lang/IndexOutOfBoundsException") (E := "java/lang/IndexOutOfBoundsException") hown [] ⟨0, 10, 13, 19⟩ [⟨0, 10, 17, 13⟩] htb (fun z hz => by simp at hz) (by decide) (by decide) (hts (.classLink RL 19 "java/lang/IndexOutOfBoundsException") (by decide +kernel)) (va_Nw.use rfl (hE.1 (.castable "java/lang/IndexOutOfBoundsException" "java/lang/IndexOutOfBoundsException") (by decide +kernel))) hce hcv hcl ?_
      refine lv_astore (lv' := [(4, .ref q9), (0, .ref (ad x0)), (1, .int x1), (2, .int x2), (3, .ref (ad x3))]) hx hb dL_best_13 hl (by decide) rfl (fun ls hl => ?_)
      refine lv_iconst (v := 1) hx hb dL_best_15 (by decide) ?_
      refine W.widen (k := 2) (n := 12) (Nat.le_of_ble_eq_true rfl) (Nat.le_of_ble_eq_true rfl) ?_
      exact z_iret hx hb hr hlocks hW hS (congrArg Prod.fst (Option.some.inj h)) (congrArg Prod.snd (Option.some.inj h)) dL_best_16
    · have h := zin hk1 h
      by_cases hk3 : k = 3
      · subst hk3
        have h := zip rfl h
        refine vx_catch (own := RL) (name := "java/lang/IllegalStateException") (E := "java/lang/IllegalStateException") hown [⟨0, 10, 13, 19⟩] ⟨0, 10, 17, 13⟩ [] htb (fun z hz => by
            simp only [List.mem_cons, List.not_mem_nil, or_false] at hz
            rcases hz with rfl
            · exact Or.inr ⟨by decide, "java/lang/IndexOutOfBoundsException", hts (.classLink RL 19 "java/lang/IndexOutOfBoundsException") (by decide +kernel), hE.2.2.2.2.1 ("java/lang/IllegalStateException", "java/lang/IndexOutOfBoundsException") (by decide)⟩
            ) (by decide) (by decide) (hts (.classLink RL 13 "java/lang/IllegalStateException") (by decide +kernel)) (va_Nw.use rfl (hE.1 (.castable "java/lang/IllegalStateException" "java/lang/IllegalStateException") (by decide +kernel))) hce hcv hcl ?_
        refine lv_astore (lv' := [(4, .ref q9), (0, .ref (ad x0)), (1, .int x1), (2, .int x2), (3, .ref (ad x3))]) hx hb dL_best_17 hl (by decide) rfl (fun ls hl => ?_)
        refine lv_iconst (v := 2) hx hb dL_best_19 (by decide) ?_
        refine W.widen (k := 2) (n := 12) (Nat.le_of_ble_eq_true rfl) (Nat.le_of_ble_eq_true rfl) ?_
        exact z_iret hx hb hr hlocks hW hS (congrArg Prod.fst (Option.some.inj h)) (congrArg Prod.snd (Option.some.inj h)) dL_best_20
      · have h := zin hk3 h
        cases h
  subst hk
  have h := zx_r h
  refine lv_i2l hx hb dL_best_8 rfl ?_
  obtain ⟨g6, h⟩ := zg_some h
  refine z_last hx hb hK hL hW hS g6 dL_best_9 (fun H locs hW hS => ?_)
  obtain ⟨M7, eM8, h⟩ := zl_some h
  rw [← eM8] at hW
  refine lv_goto (tgt := 21) hx hb dL_best_10 (by decide) ?_
  refine lv_iconst (v := 0) hx hb dL_best_21 (by decide) ?_
  refine W.widen (k := 2) (n := 12) (Nat.le_of_ble_eq_true rfl) (Nat.le_of_ble_eq_true rfl) ?_
  exact z_iret hx hb hr hlocks hW hS (congrArg Prod.fst (Option.some.inj h)) (congrArg Prod.snd (Option.some.inj h)) dL_best_22
def f_L_bestByTrying (N : Nat) (K len : Nat → Nat) (x0 : Nat) (x1 : Int32) (x2 : Int32) (x3 : Nat) (M : ZM) : Option (Int32 × ZM) :=
zg (K x0 == 7) (
zbp (f_X6_bestByTrying N K len x0 x1 x2 M) fun q2 M4 => (
zx q2 (fun k => (if k = 1 then some ((1 : Int32), M4) else (if k = 3 then some ((2 : Int32), M4) else none))) fun r5 => (
zg (zok K len x3 12 (0 : Int32)) (
zl (zsJ M4 x3 (0 : Int32).toNatClampNeg r5.toInt64) fun M7 => (
some ((0 : Int32), M7))))))
set_option maxRecDepth 100000 in
set_option maxHeartbeats 4000000 in
theorem m_L_bestByTrying (l : Launch) (hlt : l.stackTraces = false) {D : va_G} {cy : Nat → ClassId} {ad : Nat → Nat} {L : List Nat} {K len : Nat → Nat} (hL : zSh ad L K) (N : Nat) {x0 : Nat} {x1 : Int32} {x2 : Int32} {x3 : Nat} {M Mr : ZM} {r : Int32} (h : f_L_bestByTrying N K len x0 x1 x2 x3 M = some (r, Mr)) (sz : Nat) : Met l yL_bestByTrying wsL_bestByTrying ({ frames := 15, cells := 2, slots := 12, locals := 394 } : Room) (zPre D cy ad L K len sz [.ref (ad x0), .int x1, .int x2, .ref (ad x3)] M) (zQi D cy ad L K len r Mr sz) 2 12 (zA ad L sz) := by
  refine z_wentry (hh := [(0, 10, 13, 19), (0, 10, 17, 13)]) (Qf := fun sz => zQi D cy ad L K len r Mr sz) (av := [.ref (ad x0), .int x1, .int x2, .ref (ad x3)]) (by decide) rfl rfl hL (Nat.le_of_ble_eq_true rfl) (fun p e s m args below meth c C0 H locs ls hW hS hl => ?_)
  obtain ⟨⟨hx, hb, hr, hml, hown, hts, hlocks, hK, hL, hE⟩, htb⟩ := id C0
  unfold f_L_bestByTrying at h
  refine lv_aload_n hx hb dL_bestByTrying_0 rfl (lv_at hl 3 rfl) ?_
  refine lv_iconst (v := 0) hx hb dL_bestByTrying_1 (by decide) ?_
  refine lv_aload_n hx hb dL_bestByTrying_2 rfl (lv_at hl 0 rfl) ?_
  refine lv_iload_n hx hb dL_bestByTrying_3 rfl (lv_at hl 1 rfl) ?_
  refine lv_iload_n hx hb dL_bestByTrying_4 rfl (lv_at hl 2 rfl) ?_
  obtain ⟨g1, h⟩ := zg_some h
  obtain ⟨q2, M4, e3, h⟩ := zbp_some h
  refine z_xcalli hS (vx_runV (As := [.int x1, .int x2]) (rest := [.int (0 : Int32), .ref (ad x3)]) ⟨hx, hb, hml, hown, hts⟩ (m_X6_bestByTrying l hlt hL N e3 H.size) (cwV 2 hts gL_bestByTrying_X6_bestByTrying rfl rfl rfl (by decide +kernel) ⟨Nat.le_of_ble_eq_true rfl, Nat.le_of_ble_eq_true rfl⟩) (z_preV (q := (RX6, TX6, 7)) hK hL hE hW hS (zK_of g1) (by decide) rfl [.int x1, .int x2]) rfl rfl hl.1 rfl (lv_room (Nat.le_of_ble_eq_true rfl)) dL_bestByTrying_5 ⟨Nat.le_of_ble_eq_true rfl, Nat.le_of_ble_eq_true rfl⟩) (fun k hk H locs q9 ce hW hS hce hcv hcl => ?_) (fun r5 hk H locs hW hS => ?_)
  · subst hk
    have h := zx_l h
    by_cases hk1 : k = 1
    · subst hk1
      have h := zip rfl h
      refine vx_catch (own := RL) (name := "java/lang/IndexOutOfBoundsException") (E := "java/lang/IndexOutOfBoundsException") hown [] ⟨0, 10, 13, 19⟩ [⟨0, 10, 17, 13⟩] htb (fun z hz => by simp at hz) (by decide) (by decide) (hts (.classLink RL 19 "java/lang/IndexOutOfBoundsException") (by decide +kernel)) (va_Nw.use rfl (hE.1 (.castable "java/lang/IndexOutOfBoundsException" "java/lang/IndexOutOfBoundsException") (by decide +kernel))) hce hcv hcl ?_
      refine lv_astore (lv' := [(4, .ref q9), (0, .ref (ad x0)), (1, .int x1), (2, .int x2), (3, .ref (ad x3))]) hx hb dL_bestByTrying_13 hl (by decide) rfl (fun ls hl => ?_)
      refine lv_iconst (v := 1) hx hb dL_bestByTrying_15 (by decide) ?_
      refine W.widen (k := 2) (n := 12) (Nat.le_of_ble_eq_true rfl) (Nat.le_of_ble_eq_true rfl) ?_
      exact z_iret hx hb hr hlocks hW hS (congrArg Prod.fst (Option.some.inj h)) (congrArg Prod.snd (Option.some.inj h)) dL_bestByTrying_16
    · have h := zin hk1 h
      by_cases hk3 : k = 3
      · subst hk3
        have h := zip rfl h
        refine vx_catch (own := RL) (name := "java/lang/IllegalStateException") (E := "java/lang/IllegalStateException") hown [⟨0, 10, 13, 19⟩] ⟨0, 10, 17, 13⟩ [] htb (fun z hz => by
            simp only [List.mem_cons, List.not_mem_nil, or_false] at hz
            rcases hz with rfl
            · exact Or.inr ⟨by decide, "java/lang/IndexOutOfBoundsException", hts (.classLink RL 19 "java/lang/IndexOutOfBoundsException") (by decide +kernel), hE.2.2.2.2.1 ("java/lang/IllegalStateException", "java/lang/IndexOutOfBoundsException") (by decide)⟩
            ) (by decide) (by decide) (hts (.classLink RL 13 "java/lang/IllegalStateException") (by decide +kernel)) (va_Nw.use rfl (hE.1 (.castable "java/lang/IllegalStateException" "java/lang/IllegalStateException") (by decide +kernel))) hce hcv hcl ?_
        refine lv_astore (lv' := [(4, .ref q9), (0, .ref (ad x0)), (1, .int x1), (2, .int x2), (3, .ref (ad x3))]) hx hb dL_bestByTrying_17 hl (by decide) rfl (fun ls hl => ?_)
        refine lv_iconst (v := 2) hx hb dL_bestByTrying_19 (by decide) ?_
        refine W.widen (k := 2) (n := 12) (Nat.le_of_ble_eq_true rfl) (Nat.le_of_ble_eq_true rfl) ?_
        exact z_iret hx hb hr hlocks hW hS (congrArg Prod.fst (Option.some.inj h)) (congrArg Prod.snd (Option.some.inj h)) dL_bestByTrying_20
      · have h := zin hk3 h
        cases h
  subst hk
  have h := zx_r h
  refine lv_i2l hx hb dL_bestByTrying_8 rfl ?_
  obtain ⟨g6, h⟩ := zg_some h
  refine z_last hx hb hK hL hW hS g6 dL_bestByTrying_9 (fun H locs hW hS => ?_)
  obtain ⟨M7, eM8, h⟩ := zl_some h
  rw [← eM8] at hW
  refine lv_goto (tgt := 21) hx hb dL_bestByTrying_10 (by decide) ?_
  refine lv_iconst (v := 0) hx hb dL_bestByTrying_21 (by decide) ?_
  refine W.widen (k := 2) (n := 12) (Nat.le_of_ble_eq_true rfl) (Nat.le_of_ble_eq_true rfl) ?_
  exact z_iret hx hb hr hlocks hW hS (congrArg Prod.fst (Option.some.inj h)) (congrArg Prod.snd (Option.some.inj h)) dL_bestByTrying_22
def f_L_head (N : Nat) (K len : Nat → Nat) (x0 : Nat) (x1 : Int32) (x2 : Int32) (x3 : Int32) (x4 : Nat) (M : ZM) : Option (Int32 × ZM) :=
zg (K x0 == 7) (
zbp (f_X6_head N K len x0 x1 x2 x3 M) fun q2 M4 => (
zx q2 (fun k => (if k = 1 then some ((1 : Int32), M4) else (if k = 3 then some ((2 : Int32), M4) else none))) fun r5 => (
zg (zok K len x4 12 (0 : Int32)) (
zl (zsJ M4 x4 (0 : Int32).toNatClampNeg r5.toInt64) fun M7 => (
some ((0 : Int32), M7))))))
set_option maxRecDepth 100000 in
set_option maxHeartbeats 4000000 in
theorem m_L_head (l : Launch) (hlt : l.stackTraces = false) {D : va_G} {cy : Nat → ClassId} {ad : Nat → Nat} {L : List Nat} {K len : Nat → Nat} (hL : zSh ad L K) (N : Nat) {x0 : Nat} {x1 : Int32} {x2 : Int32} {x3 : Int32} {x4 : Nat} {M Mr : ZM} {r : Int32} (h : f_L_head N K len x0 x1 x2 x3 x4 M = some (r, Mr)) (sz : Nat) : Met l yL_head wsL_head ({ frames := 9, cells := 3, slots := 18, locals := 159 } : Room) (zPre D cy ad L K len sz [.ref (ad x0), .int x1, .int x2, .int x3, .ref (ad x4)] M) (zQi D cy ad L K len r Mr sz) 3 18 (zA ad L sz) := by
  refine z_wentry (hh := [(0, 12, 15, 19), (0, 12, 19, 13)]) (Qf := fun sz => zQi D cy ad L K len r Mr sz) (av := [.ref (ad x0), .int x1, .int x2, .int x3, .ref (ad x4)]) (by decide) rfl rfl hL (Nat.le_of_ble_eq_true rfl) (fun p e s m args below meth c C0 H locs ls hW hS hl => ?_)
  obtain ⟨⟨hx, hb, hr, hml, hown, hts, hlocks, hK, hL, hE⟩, htb⟩ := id C0
  unfold f_L_head at h
  refine lv_aload hx hb dL_head_0 (lv_at hl 4 rfl) ?_
  refine lv_iconst (v := 0) hx hb dL_head_2 (by decide) ?_
  refine lv_aload_n hx hb dL_head_3 rfl (lv_at hl 0 rfl) ?_
  refine lv_iload_n hx hb dL_head_4 rfl (lv_at hl 1 rfl) ?_
  refine lv_iload_n hx hb dL_head_5 rfl (lv_at hl 2 rfl) ?_
  refine lv_iload_n hx hb dL_head_6 rfl (lv_at hl 3 rfl) ?_
  obtain ⟨g1, h⟩ := zg_some h
  obtain ⟨q2, M4, e3, h⟩ := zbp_some h
  refine z_xcalli hS (vx_runV (As := [.int x1, .int x2, .int x3]) (rest := [.int (0 : Int32), .ref (ad x4)]) ⟨hx, hb, hml, hown, hts⟩ (m_X6_head l hlt hL N e3 H.size) (cwV 3 hts gL_head_X6_head rfl rfl rfl (by decide +kernel) ⟨Nat.le_of_ble_eq_true rfl, Nat.le_of_ble_eq_true rfl⟩) (z_preV (q := (RX6, TX6, 7)) hK hL hE hW hS (zK_of g1) (by decide) rfl [.int x1, .int x2, .int x3]) rfl rfl hl.1 rfl (lv_room (Nat.le_of_ble_eq_true rfl)) dL_head_7 ⟨Nat.le_of_ble_eq_true rfl, Nat.le_of_ble_eq_true rfl⟩) (fun k hk H locs q9 ce hW hS hce hcv hcl => ?_) (fun r5 hk H locs hW hS => ?_)
  · subst hk
    have h := zx_l h
    by_cases hk1 : k = 1
    · subst hk1
      have h := zip rfl h
      refine vx_catch (own := RL) (name := "java/lang/IndexOutOfBoundsException") (E := "java/lang/IndexOutOfBoundsException") hown [] ⟨0, 12, 15, 19⟩ [⟨0, 12, 19, 13⟩] htb (fun z hz => by simp at hz) (by decide) (by decide) (hts (.classLink RL 19 "java/lang/IndexOutOfBoundsException") (by decide +kernel)) (va_Nw.use rfl (hE.1 (.castable "java/lang/IndexOutOfBoundsException" "java/lang/IndexOutOfBoundsException") (by decide +kernel))) hce hcv hcl ?_
      refine lv_astore (lv' := [(5, .ref q9), (0, .ref (ad x0)), (1, .int x1), (2, .int x2), (3, .int x3), (4, .ref (ad x4))]) hx hb dL_head_15 hl (by decide) rfl (fun ls hl => ?_)
      refine lv_iconst (v := 1) hx hb dL_head_17 (by decide) ?_
      refine W.widen (k := 3) (n := 18) (Nat.le_of_ble_eq_true rfl) (Nat.le_of_ble_eq_true rfl) ?_
      exact z_iret hx hb hr hlocks hW hS (congrArg Prod.fst (Option.some.inj h)) (congrArg Prod.snd (Option.some.inj h)) dL_head_18
    · have h := zin hk1 h
      by_cases hk3 : k = 3
      · subst hk3
        have h := zip rfl h
        refine vx_catch (own := RL) (name := "java/lang/IllegalStateException") (E := "java/lang/IllegalStateException") hown [⟨0, 12, 15, 19⟩] ⟨0, 12, 19, 13⟩ [] htb (fun z hz => by
            simp only [List.mem_cons, List.not_mem_nil, or_false] at hz
            rcases hz with rfl
            · exact Or.inr ⟨by decide, "java/lang/IndexOutOfBoundsException", hts (.classLink RL 19 "java/lang/IndexOutOfBoundsException") (by decide +kernel), hE.2.2.2.2.1 ("java/lang/IllegalStateException", "java/lang/IndexOutOfBoundsException") (by decide)⟩
            ) (by decide) (by decide) (hts (.classLink RL 13 "java/lang/IllegalStateException") (by decide +kernel)) (va_Nw.use rfl (hE.1 (.castable "java/lang/IllegalStateException" "java/lang/IllegalStateException") (by decide +kernel))) hce hcv hcl ?_
        refine lv_astore (lv' := [(5, .ref q9), (0, .ref (ad x0)), (1, .int x1), (2, .int x2), (3, .int x3), (4, .ref (ad x4))]) hx hb dL_head_19 hl (by decide) rfl (fun ls hl => ?_)
        refine lv_iconst (v := 2) hx hb dL_head_21 (by decide) ?_
        refine W.widen (k := 3) (n := 18) (Nat.le_of_ble_eq_true rfl) (Nat.le_of_ble_eq_true rfl) ?_
        exact z_iret hx hb hr hlocks hW hS (congrArg Prod.fst (Option.some.inj h)) (congrArg Prod.snd (Option.some.inj h)) dL_head_22
      · have h := zin hk3 h
        cases h
  subst hk
  have h := zx_r h
  refine lv_i2l hx hb dL_head_10 rfl ?_
  obtain ⟨g6, h⟩ := zg_some h
  refine z_last hx hb hK hL hW hS g6 dL_head_11 (fun H locs hW hS => ?_)
  obtain ⟨M7, eM8, h⟩ := zl_some h
  rw [← eM8] at hW
  refine lv_goto (tgt := 23) hx hb dL_head_12 (by decide) ?_
  refine lv_iconst (v := 0) hx hb dL_head_23 (by decide) ?_
  refine W.widen (k := 3) (n := 18) (Nat.le_of_ble_eq_true rfl) (Nat.le_of_ble_eq_true rfl) ?_
  exact z_iret hx hb hr hlocks hW hS (congrArg Prod.fst (Option.some.inj h)) (congrArg Prod.snd (Option.some.inj h)) dL_head_24
def f_L_crossings (N : Nat) (K len : Nat → Nat) (x0 : Nat) (x1 : Int32) (x2 : Nat) (M : ZM) : Option (Int32 × ZM) :=
zg (K x0 == 7) (
zbp (f_X6_crossings N K len x0 x1 M) fun q2 M4 => (
zx q2 (fun k => (if k = 1 then some ((1 : Int32), M4) else (if k = 3 then some ((2 : Int32), M4) else none))) fun r5 => (
zg (zok K len x2 12 (0 : Int32)) (
zl (zsJ M4 x2 (0 : Int32).toNatClampNeg r5.toInt64) fun M7 => (
some ((0 : Int32), M7))))))
set_option maxRecDepth 100000 in
set_option maxHeartbeats 4000000 in
theorem m_L_crossings (l : Launch) (hlt : l.stackTraces = false) {D : va_G} {cy : Nat → ClassId} {ad : Nat → Nat} {L : List Nat} {K len : Nat → Nat} (hL : zSh ad L K) (N : Nat) {x0 : Nat} {x1 : Int32} {x2 : Nat} {M Mr : ZM} {r : Int32} (h : f_L_crossings N K len x0 x1 x2 M = some (r, Mr)) (sz : Nat) : Met l yL_crossings wsL_crossings ({ frames := 9, cells := 2, slots := 12, locals := 162 } : Room) (zPre D cy ad L K len sz [.ref (ad x0), .int x1, .ref (ad x2)] M) (zQi D cy ad L K len r Mr sz) 2 12 (zA ad L sz) := by
  refine z_wentry (hh := [(0, 9, 12, 19), (0, 9, 15, 13)]) (Qf := fun sz => zQi D cy ad L K len r Mr sz) (av := [.ref (ad x0), .int x1, .ref (ad x2)]) (by decide) rfl rfl hL (Nat.le_of_ble_eq_true rfl) (fun p e s m args below meth c C0 H locs ls hW hS hl => ?_)
  obtain ⟨⟨hx, hb, hr, hml, hown, hts, hlocks, hK, hL, hE⟩, htb⟩ := id C0
  unfold f_L_crossings at h
  refine lv_aload_n hx hb dL_crossings_0 rfl (lv_at hl 2 rfl) ?_
  refine lv_iconst (v := 0) hx hb dL_crossings_1 (by decide) ?_
  refine lv_aload_n hx hb dL_crossings_2 rfl (lv_at hl 0 rfl) ?_
  refine lv_iload_n hx hb dL_crossings_3 rfl (lv_at hl 1 rfl) ?_
  obtain ⟨g1, h⟩ := zg_some h
  obtain ⟨q2, M4, e3, h⟩ := zbp_some h
  refine z_xcalli hS (vx_runV (As := [.int x1]) (rest := [.int (0 : Int32), .ref (ad x2)]) ⟨hx, hb, hml, hown, hts⟩ (m_X6_crossings l hlt hL N e3 H.size) (cwV 1 hts gL_crossings_X6_crossings rfl rfl rfl (by decide +kernel) ⟨Nat.le_of_ble_eq_true rfl, Nat.le_of_ble_eq_true rfl⟩) (z_preV (q := (RX6, TX6, 7)) hK hL hE hW hS (zK_of g1) (by decide) rfl [.int x1]) rfl rfl hl.1 rfl (lv_room (Nat.le_of_ble_eq_true rfl)) dL_crossings_4 ⟨Nat.le_of_ble_eq_true rfl, Nat.le_of_ble_eq_true rfl⟩) (fun k hk H locs q9 ce hW hS hce hcv hcl => ?_) (fun r5 hk H locs hW hS => ?_)
  · subst hk
    have h := zx_l h
    by_cases hk1 : k = 1
    · subst hk1
      have h := zip rfl h
      refine vx_catch (own := RL) (name := "java/lang/IndexOutOfBoundsException") (E := "java/lang/IndexOutOfBoundsException") hown [] ⟨0, 9, 12, 19⟩ [⟨0, 9, 15, 13⟩] htb (fun z hz => by simp at hz) (by decide) (by decide) (hts (.classLink RL 19 "java/lang/IndexOutOfBoundsException") (by decide +kernel)) (va_Nw.use rfl (hE.1 (.castable "java/lang/IndexOutOfBoundsException" "java/lang/IndexOutOfBoundsException") (by decide +kernel))) hce hcv hcl ?_
      refine lv_astore_n (lv' := [(3, .ref q9), (0, .ref (ad x0)), (1, .int x1), (2, .ref (ad x2))]) hx hb dL_crossings_12 rfl hl (by decide) rfl (fun ls hl => ?_)
      refine lv_iconst (v := 1) hx hb dL_crossings_13 (by decide) ?_
      refine W.widen (k := 2) (n := 12) (Nat.le_of_ble_eq_true rfl) (Nat.le_of_ble_eq_true rfl) ?_
      exact z_iret hx hb hr hlocks hW hS (congrArg Prod.fst (Option.some.inj h)) (congrArg Prod.snd (Option.some.inj h)) dL_crossings_14
    · have h := zin hk1 h
      by_cases hk3 : k = 3
      · subst hk3
        have h := zip rfl h
        refine vx_catch (own := RL) (name := "java/lang/IllegalStateException") (E := "java/lang/IllegalStateException") hown [⟨0, 9, 12, 19⟩] ⟨0, 9, 15, 13⟩ [] htb (fun z hz => by
            simp only [List.mem_cons, List.not_mem_nil, or_false] at hz
            rcases hz with rfl
            · exact Or.inr ⟨by decide, "java/lang/IndexOutOfBoundsException", hts (.classLink RL 19 "java/lang/IndexOutOfBoundsException") (by decide +kernel), hE.2.2.2.2.1 ("java/lang/IllegalStateException", "java/lang/IndexOutOfBoundsException") (by decide)⟩
            ) (by decide) (by decide) (hts (.classLink RL 13 "java/lang/IllegalStateException") (by decide +kernel)) (va_Nw.use rfl (hE.1 (.castable "java/lang/IllegalStateException" "java/lang/IllegalStateException") (by decide +kernel))) hce hcv hcl ?_
        refine lv_astore_n (lv' := [(3, .ref q9), (0, .ref (ad x0)), (1, .int x1), (2, .ref (ad x2))]) hx hb dL_crossings_15 rfl hl (by decide) rfl (fun ls hl => ?_)
        refine lv_iconst (v := 2) hx hb dL_crossings_16 (by decide) ?_
        refine W.widen (k := 2) (n := 12) (Nat.le_of_ble_eq_true rfl) (Nat.le_of_ble_eq_true rfl) ?_
        exact z_iret hx hb hr hlocks hW hS (congrArg Prod.fst (Option.some.inj h)) (congrArg Prod.snd (Option.some.inj h)) dL_crossings_17
      · have h := zin hk3 h
        cases h
  subst hk
  have h := zx_r h
  refine lv_i2l hx hb dL_crossings_7 rfl ?_
  obtain ⟨g6, h⟩ := zg_some h
  refine z_last hx hb hK hL hW hS g6 dL_crossings_8 (fun H locs hW hS => ?_)
  obtain ⟨M7, eM8, h⟩ := zl_some h
  rw [← eM8] at hW
  refine lv_goto (tgt := 18) hx hb dL_crossings_9 (by decide) ?_
  refine lv_iconst (v := 0) hx hb dL_crossings_18 (by decide) ?_
  refine W.widen (k := 2) (n := 12) (Nat.le_of_ble_eq_true rfl) (Nat.le_of_ble_eq_true rfl) ?_
  exact z_iret hx hb hr hlocks hW hS (congrArg Prod.fst (Option.some.inj h)) (congrArg Prod.snd (Option.some.inj h)) dL_crossings_19
def f_L_ranked (N : Nat) (K len : Nat → Nat) (x0 : Nat) (x1 : Int32) (x2 : Int32) (x3 : Int32) (x4 : Nat) (M : ZM) : Option (Int32 × ZM) :=
zg (K x0 == 7) (
zbp (f_X6_ranked N K len x0 x1 x2 x3 M) fun q2 M4 => (
zx q2 (fun k => (if k = 1 then some ((1 : Int32), M4) else none)) fun r5 => (
zg (zok K len x4 12 (0 : Int32)) (
zl (zsJ M4 x4 (0 : Int32).toNatClampNeg r5.toInt64) fun M7 => (
some ((0 : Int32), M7))))))
set_option maxRecDepth 100000 in
set_option maxHeartbeats 4000000 in
theorem m_L_ranked (l : Launch) (hlt : l.stackTraces = false) {D : va_G} {cy : Nat → ClassId} {ad : Nat → Nat} {L : List Nat} {K len : Nat → Nat} (hL : zSh ad L K) (N : Nat) {x0 : Nat} {x1 : Int32} {x2 : Int32} {x3 : Int32} {x4 : Nat} {M Mr : ZM} {r : Int32} (h : f_L_ranked N K len x0 x1 x2 x3 x4 M = some (r, Mr)) (sz : Nat) : Met l yL_ranked wsL_ranked ({ frames := 16, cells := 2, slots := 12, locals := 417 } : Room) (zPre D cy ad L K len sz [.ref (ad x0), .int x1, .int x2, .int x3, .ref (ad x4)] M) (zQi D cy ad L K len r Mr sz) 2 12 (zA ad L sz) := by
  refine z_wentry (hh := [(0, 12, 15, 19)]) (Qf := fun sz => zQi D cy ad L K len r Mr sz) (av := [.ref (ad x0), .int x1, .int x2, .int x3, .ref (ad x4)]) (by decide) rfl rfl hL (Nat.le_of_ble_eq_true rfl) (fun p e s m args below meth c C0 H locs ls hW hS hl => ?_)
  obtain ⟨⟨hx, hb, hr, hml, hown, hts, hlocks, hK, hL, hE⟩, htb⟩ := id C0
  unfold f_L_ranked at h
  refine lv_aload hx hb dL_ranked_0 (lv_at hl 4 rfl) ?_
  refine lv_iconst (v := 0) hx hb dL_ranked_2 (by decide) ?_
  refine lv_aload_n hx hb dL_ranked_3 rfl (lv_at hl 0 rfl) ?_
  refine lv_iload_n hx hb dL_ranked_4 rfl (lv_at hl 1 rfl) ?_
  refine lv_iload_n hx hb dL_ranked_5 rfl (lv_at hl 2 rfl) ?_
  refine lv_iload_n hx hb dL_ranked_6 rfl (lv_at hl 3 rfl) ?_
  obtain ⟨g1, h⟩ := zg_some h
  obtain ⟨q2, M4, e3, h⟩ := zbp_some h
  refine z_xcalli hS (vx_runV (As := [.int x1, .int x2, .int x3]) (rest := [.int (0 : Int32), .ref (ad x4)]) ⟨hx, hb, hml, hown, hts⟩ (m_X6_ranked l hlt hL N e3 H.size) (cwV 3 hts gL_ranked_X6_ranked rfl rfl rfl (by decide +kernel) ⟨Nat.le_of_ble_eq_true rfl, Nat.le_of_ble_eq_true rfl⟩) (z_preV (q := (RX6, TX6, 7)) hK hL hE hW hS (zK_of g1) (by decide) rfl [.int x1, .int x2, .int x3]) rfl rfl hl.1 rfl (lv_room (Nat.le_of_ble_eq_true rfl)) dL_ranked_7 ⟨Nat.le_of_ble_eq_true rfl, Nat.le_of_ble_eq_true rfl⟩) (fun k hk H locs q9 ce hW hS hce hcv hcl => ?_) (fun r5 hk H locs hW hS => ?_)
  · subst hk
    have h := zx_l h
    by_cases hk1 : k = 1
    · subst hk1
      have h := zip rfl h
      refine vx_catch (own := RL) (name := "java/lang/IndexOutOfBoundsException") (E := "java/lang/IndexOutOfBoundsException") hown [] ⟨0, 12, 15, 19⟩ [] htb (fun z hz => by simp at hz) (by decide) (by decide) (hts (.classLink RL 19 "java/lang/IndexOutOfBoundsException") (by decide +kernel)) (va_Nw.use rfl (hE.1 (.castable "java/lang/IndexOutOfBoundsException" "java/lang/IndexOutOfBoundsException") (by decide +kernel))) hce hcv hcl ?_
      refine lv_astore (lv' := [(5, .ref q9), (0, .ref (ad x0)), (1, .int x1), (2, .int x2), (3, .int x3), (4, .ref (ad x4))]) hx hb dL_ranked_15 hl (by decide) rfl (fun ls hl => ?_)
      refine lv_iconst (v := 1) hx hb dL_ranked_17 (by decide) ?_
      refine W.widen (k := 2) (n := 12) (Nat.le_of_ble_eq_true rfl) (Nat.le_of_ble_eq_true rfl) ?_
      exact z_iret hx hb hr hlocks hW hS (congrArg Prod.fst (Option.some.inj h)) (congrArg Prod.snd (Option.some.inj h)) dL_ranked_18
    · have h := zin hk1 h
      cases h
  subst hk
  have h := zx_r h
  refine lv_i2l hx hb dL_ranked_10 rfl ?_
  obtain ⟨g6, h⟩ := zg_some h
  refine z_last hx hb hK hL hW hS g6 dL_ranked_11 (fun H locs hW hS => ?_)
  obtain ⟨M7, eM8, h⟩ := zl_some h
  rw [← eM8] at hW
  refine lv_goto (tgt := 19) hx hb dL_ranked_12 (by decide) ?_
  refine lv_iconst (v := 0) hx hb dL_ranked_19 (by decide) ?_
  refine W.widen (k := 2) (n := 12) (Nat.le_of_ble_eq_true rfl) (Nat.le_of_ble_eq_true rfl) ?_
  exact z_iret hx hb hr hlocks hW hS (congrArg Prod.fst (Option.some.inj h)) (congrArg Prod.snd (Option.some.inj h)) dL_ranked_20
def f_L_rankedHead (N : Nat) (K len : Nat → Nat) (x0 : Nat) (x1 : Int32) (x2 : Int32) (x3 : Int32) (x4 : Int32) (x5 : Nat) (M : ZM) : Option (Int32 × ZM) :=
zg (K x0 == 7) (
zbp (f_X6_rankedHead N K len x0 x1 x2 x3 x4 M) fun q2 M4 => (
zx q2 (fun k => (if k = 1 then some ((1 : Int32), M4) else none)) fun r5 => (
zg (zok K len x5 12 (0 : Int32)) (
zl (zsJ M4 x5 (0 : Int32).toNatClampNeg r5.toInt64) fun M7 => (
some ((0 : Int32), M7))))))
set_option maxRecDepth 100000 in
set_option maxHeartbeats 4000000 in
theorem m_L_rankedHead (l : Launch) (hlt : l.stackTraces = false) {D : va_G} {cy : Nat → ClassId} {ad : Nat → Nat} {L : List Nat} {K len : Nat → Nat} (hL : zSh ad L K) (N : Nat) {x0 : Nat} {x1 : Int32} {x2 : Int32} {x3 : Int32} {x4 : Int32} {x5 : Nat} {M Mr : ZM} {r : Int32} (h : f_L_rankedHead N K len x0 x1 x2 x3 x4 x5 M = some (r, Mr)) (sz : Nat) : Met l yL_rankedHead wsL_rankedHead ({ frames := 16, cells := 3, slots := 18, locals := 419 } : Room) (zPre D cy ad L K len sz [.ref (ad x0), .int x1, .int x2, .int x3, .int x4, .ref (ad x5)] M) (zQi D cy ad L K len r Mr sz) 3 18 (zA ad L sz) := by
  refine z_wentry (hh := [(0, 14, 17, 19)]) (Qf := fun sz => zQi D cy ad L K len r Mr sz) (av := [.ref (ad x0), .int x1, .int x2, .int x3, .int x4, .ref (ad x5)]) (by decide) rfl rfl hL (Nat.le_of_ble_eq_true rfl) (fun p e s m args below meth c C0 H locs ls hW hS hl => ?_)
  obtain ⟨⟨hx, hb, hr, hml, hown, hts, hlocks, hK, hL, hE⟩, htb⟩ := id C0
  unfold f_L_rankedHead at h
  refine lv_aload hx hb dL_rankedHead_0 (lv_at hl 5 rfl) ?_
  refine lv_iconst (v := 0) hx hb dL_rankedHead_2 (by decide) ?_
  refine lv_aload_n hx hb dL_rankedHead_3 rfl (lv_at hl 0 rfl) ?_
  refine lv_iload_n hx hb dL_rankedHead_4 rfl (lv_at hl 1 rfl) ?_
  refine lv_iload_n hx hb dL_rankedHead_5 rfl (lv_at hl 2 rfl) ?_
  refine lv_iload_n hx hb dL_rankedHead_6 rfl (lv_at hl 3 rfl) ?_
  refine lv_iload hx hb dL_rankedHead_7 (lv_at hl 4 rfl) ?_
  obtain ⟨g1, h⟩ := zg_some h
  obtain ⟨q2, M4, e3, h⟩ := zbp_some h
  refine z_xcalli hS (vx_runV (As := [.int x1, .int x2, .int x3, .int x4]) (rest := [.int (0 : Int32), .ref (ad x5)]) ⟨hx, hb, hml, hown, hts⟩ (m_X6_rankedHead l hlt hL N e3 H.size) (cwV 4 hts gL_rankedHead_X6_rankedHead rfl rfl rfl (by decide +kernel) ⟨Nat.le_of_ble_eq_true rfl, Nat.le_of_ble_eq_true rfl⟩) (z_preV (q := (RX6, TX6, 7)) hK hL hE hW hS (zK_of g1) (by decide) rfl [.int x1, .int x2, .int x3, .int x4]) rfl rfl hl.1 rfl (lv_room (Nat.le_of_ble_eq_true rfl)) dL_rankedHead_9 ⟨Nat.le_of_ble_eq_true rfl, Nat.le_of_ble_eq_true rfl⟩) (fun k hk H locs q9 ce hW hS hce hcv hcl => ?_) (fun r5 hk H locs hW hS => ?_)
  · subst hk
    have h := zx_l h
    by_cases hk1 : k = 1
    · subst hk1
      have h := zip rfl h
      refine vx_catch (own := RL) (name := "java/lang/IndexOutOfBoundsException") (E := "java/lang/IndexOutOfBoundsException") hown [] ⟨0, 14, 17, 19⟩ [] htb (fun z hz => by simp at hz) (by decide) (by decide) (hts (.classLink RL 19 "java/lang/IndexOutOfBoundsException") (by decide +kernel)) (va_Nw.use rfl (hE.1 (.castable "java/lang/IndexOutOfBoundsException" "java/lang/IndexOutOfBoundsException") (by decide +kernel))) hce hcv hcl ?_
      refine lv_astore (lv' := [(6, .ref q9), (0, .ref (ad x0)), (1, .int x1), (2, .int x2), (3, .int x3), (4, .int x4), (5, .ref (ad x5))]) hx hb dL_rankedHead_17 hl (by decide) rfl (fun ls hl => ?_)
      refine lv_iconst (v := 1) hx hb dL_rankedHead_19 (by decide) ?_
      refine W.widen (k := 3) (n := 18) (Nat.le_of_ble_eq_true rfl) (Nat.le_of_ble_eq_true rfl) ?_
      exact z_iret hx hb hr hlocks hW hS (congrArg Prod.fst (Option.some.inj h)) (congrArg Prod.snd (Option.some.inj h)) dL_rankedHead_20
    · have h := zin hk1 h
      cases h
  subst hk
  have h := zx_r h
  refine lv_i2l hx hb dL_rankedHead_12 rfl ?_
  obtain ⟨g6, h⟩ := zg_some h
  refine z_last hx hb hK hL hW hS g6 dL_rankedHead_13 (fun H locs hW hS => ?_)
  obtain ⟨M7, eM8, h⟩ := zl_some h
  rw [← eM8] at hW
  refine lv_goto (tgt := 21) hx hb dL_rankedHead_14 (by decide) ?_
  refine lv_iconst (v := 0) hx hb dL_rankedHead_21 (by decide) ?_
  refine W.widen (k := 3) (n := 18) (Nat.le_of_ble_eq_true rfl) (Nat.le_of_ble_eq_true rfl) ?_
  exact z_iret hx hb hr hlocks hW hS (congrArg Prod.fst (Option.some.inj h)) (congrArg Prod.snd (Option.some.inj h)) dL_rankedHead_22
def f_L_correct (N : Nat) (K len : Nat → Nat) (x0 : Nat) (x1 : Int32) (x2 : Int32) (x3 : Int32) (x4 : Nat) (M : ZM) : Option (Int32 × ZM) :=
zg (K x0 == 7) (
zbp (f_X6_correct N K len x0 x1 x2 x3 M) fun q2 M4 => (
zx q2 (fun k => (if k = 1 then some ((1 : Int32), M4) else (if k = 2 then some ((2 : Int32), M4) else none))) fun r5 => (
zg (zok K len x4 12 (0 : Int32)) (
zl (zsJ M4 x4 (0 : Int32).toNatClampNeg r5.toInt64) fun M7 => (
some ((0 : Int32), M7))))))
set_option maxRecDepth 100000 in
set_option maxHeartbeats 4000000 in
theorem m_L_correct (l : Launch) (hlt : l.stackTraces = false) {D : va_G} {cy : Nat → ClassId} {ad : Nat → Nat} {L : List Nat} {K len : Nat → Nat} (hL : zSh ad L K) (N : Nat) {x0 : Nat} {x1 : Int32} {x2 : Int32} {x3 : Int32} {x4 : Nat} {M Mr : ZM} {r : Int32} (h : f_L_correct N K len x0 x1 x2 x3 x4 M = some (r, Mr)) (sz : Nat) : Met l yL_correct wsL_correct ({ frames := 9, cells := 3, slots := 18, locals := 157 } : Room) (zPre D cy ad L K len sz [.ref (ad x0), .int x1, .int x2, .int x3, .ref (ad x4)] M) (zQi D cy ad L K len r Mr sz) 3 18 (zA ad L sz) := by
  refine z_wentry (hh := [(0, 12, 15, 19), (0, 12, 19, 21)]) (Qf := fun sz => zQi D cy ad L K len r Mr sz) (av := [.ref (ad x0), .int x1, .int x2, .int x3, .ref (ad x4)]) (by decide) rfl rfl hL (Nat.le_of_ble_eq_true rfl) (fun p e s m args below meth c C0 H locs ls hW hS hl => ?_)
  obtain ⟨⟨hx, hb, hr, hml, hown, hts, hlocks, hK, hL, hE⟩, htb⟩ := id C0
  unfold f_L_correct at h
  refine lv_aload hx hb dL_correct_0 (lv_at hl 4 rfl) ?_
  refine lv_iconst (v := 0) hx hb dL_correct_2 (by decide) ?_
  refine lv_aload_n hx hb dL_correct_3 rfl (lv_at hl 0 rfl) ?_
  refine lv_iload_n hx hb dL_correct_4 rfl (lv_at hl 1 rfl) ?_
  refine lv_iload_n hx hb dL_correct_5 rfl (lv_at hl 2 rfl) ?_
  refine lv_iload_n hx hb dL_correct_6 rfl (lv_at hl 3 rfl) ?_
  obtain ⟨g1, h⟩ := zg_some h
  obtain ⟨q2, M4, e3, h⟩ := zbp_some h
  refine z_xcalli hS (vx_runV (As := [.int x1, .int x2, .int x3]) (rest := [.int (0 : Int32), .ref (ad x4)]) ⟨hx, hb, hml, hown, hts⟩ (m_X6_correct l hlt hL N e3 H.size) (cwV 3 hts gL_correct_X6_correct rfl rfl rfl (by decide +kernel) ⟨Nat.le_of_ble_eq_true rfl, Nat.le_of_ble_eq_true rfl⟩) (z_preV (q := (RX6, TX6, 7)) hK hL hE hW hS (zK_of g1) (by decide) rfl [.int x1, .int x2, .int x3]) rfl rfl hl.1 rfl (lv_room (Nat.le_of_ble_eq_true rfl)) dL_correct_7 ⟨Nat.le_of_ble_eq_true rfl, Nat.le_of_ble_eq_true rfl⟩) (fun k hk H locs q9 ce hW hS hce hcv hcl => ?_) (fun r5 hk H locs hW hS => ?_)
  · subst hk
    have h := zx_l h
    by_cases hk1 : k = 1
    · subst hk1
      have h := zip rfl h
      refine vx_catch (own := RL) (name := "java/lang/IndexOutOfBoundsException") (E := "java/lang/IndexOutOfBoundsException") hown [] ⟨0, 12, 15, 19⟩ [⟨0, 12, 19, 21⟩] htb (fun z hz => by simp at hz) (by decide) (by decide) (hts (.classLink RL 19 "java/lang/IndexOutOfBoundsException") (by decide +kernel)) (va_Nw.use rfl (hE.1 (.castable "java/lang/IndexOutOfBoundsException" "java/lang/IndexOutOfBoundsException") (by decide +kernel))) hce hcv hcl ?_
      refine lv_astore (lv' := [(5, .ref q9), (0, .ref (ad x0)), (1, .int x1), (2, .int x2), (3, .int x3), (4, .ref (ad x4))]) hx hb dL_correct_15 hl (by decide) rfl (fun ls hl => ?_)
      refine lv_iconst (v := 1) hx hb dL_correct_17 (by decide) ?_
      refine W.widen (k := 3) (n := 18) (Nat.le_of_ble_eq_true rfl) (Nat.le_of_ble_eq_true rfl) ?_
      exact z_iret hx hb hr hlocks hW hS (congrArg Prod.fst (Option.some.inj h)) (congrArg Prod.snd (Option.some.inj h)) dL_correct_18
    · have h := zin hk1 h
      by_cases hk2 : k = 2
      · subst hk2
        have h := zip rfl h
        refine vx_catch (own := RL) (name := "java/lang/IllegalArgumentException") (E := "java/lang/IllegalArgumentException") hown [⟨0, 12, 15, 19⟩] ⟨0, 12, 19, 21⟩ [] htb (fun z hz => by
            simp only [List.mem_cons, List.not_mem_nil, or_false] at hz
            rcases hz with rfl
            · exact Or.inr ⟨by decide, "java/lang/IndexOutOfBoundsException", hts (.classLink RL 19 "java/lang/IndexOutOfBoundsException") (by decide +kernel), hE.2.2.2.2.1 ("java/lang/IllegalArgumentException", "java/lang/IndexOutOfBoundsException") (by decide)⟩
            ) (by decide) (by decide) (hts (.classLink RL 21 "java/lang/IllegalArgumentException") (by decide +kernel)) (va_Nw.use rfl (hE.1 (.castable "java/lang/IllegalArgumentException" "java/lang/IllegalArgumentException") (by decide +kernel))) hce hcv hcl ?_
        refine lv_astore (lv' := [(5, .ref q9), (0, .ref (ad x0)), (1, .int x1), (2, .int x2), (3, .int x3), (4, .ref (ad x4))]) hx hb dL_correct_19 hl (by decide) rfl (fun ls hl => ?_)
        refine lv_iconst (v := 2) hx hb dL_correct_21 (by decide) ?_
        refine W.widen (k := 3) (n := 18) (Nat.le_of_ble_eq_true rfl) (Nat.le_of_ble_eq_true rfl) ?_
        exact z_iret hx hb hr hlocks hW hS (congrArg Prod.fst (Option.some.inj h)) (congrArg Prod.snd (Option.some.inj h)) dL_correct_22
      · have h := zin hk2 h
        cases h
  subst hk
  have h := zx_r h
  refine lv_i2l hx hb dL_correct_10 rfl ?_
  obtain ⟨g6, h⟩ := zg_some h
  refine z_last hx hb hK hL hW hS g6 dL_correct_11 (fun H locs hW hS => ?_)
  obtain ⟨M7, eM8, h⟩ := zl_some h
  rw [← eM8] at hW
  refine lv_goto (tgt := 23) hx hb dL_correct_12 (by decide) ?_
  refine lv_iconst (v := 0) hx hb dL_correct_23 (by decide) ?_
  refine W.widen (k := 3) (n := 18) (Nat.le_of_ble_eq_true rfl) (Nat.le_of_ble_eq_true rfl) ?_
  exact z_iret hx hb hr hlocks hW hS (congrArg Prod.fst (Option.some.inj h)) (congrArg Prod.snd (Option.some.inj h)) dL_correct_24
def f_L_matched (N : Nat) (K len : Nat → Nat) (x0 : Nat) (x1 : Int32) (x2 : Nat) (M : ZM) : Option (Int32 × ZM) :=
zg (K x0 == 7) (
zbp (f_X6_matched N K len x0 x1 M) fun q2 M4 => (
zx q2 (fun k => (if k = 1 then some ((1 : Int32), M4) else (if k = 3 then some ((2 : Int32), M4) else none))) fun r5 => (
zg (zok K len x2 12 (0 : Int32)) (
zl (zsJ M4 x2 (0 : Int32).toNatClampNeg r5.toInt64) fun M7 => (
some ((0 : Int32), M7))))))
set_option maxRecDepth 100000 in
set_option maxHeartbeats 4000000 in
theorem m_L_matched (l : Launch) (hlt : l.stackTraces = false) {D : va_G} {cy : Nat → ClassId} {ad : Nat → Nat} {L : List Nat} {K len : Nat → Nat} (hL : zSh ad L K) (N : Nat) {x0 : Nat} {x1 : Int32} {x2 : Nat} {M Mr : ZM} {r : Int32} (h : f_L_matched N K len x0 x1 x2 M = some (r, Mr)) (sz : Nat) : Met l yL_matched wsL_matched ({ frames := 9, cells := 2, slots := 12, locals := 161 } : Room) (zPre D cy ad L K len sz [.ref (ad x0), .int x1, .ref (ad x2)] M) (zQi D cy ad L K len r Mr sz) 2 12 (zA ad L sz) := by
  refine z_wentry (hh := [(0, 9, 12, 19), (0, 9, 15, 13)]) (Qf := fun sz => zQi D cy ad L K len r Mr sz) (av := [.ref (ad x0), .int x1, .ref (ad x2)]) (by decide) rfl rfl hL (Nat.le_of_ble_eq_true rfl) (fun p e s m args below meth c C0 H locs ls hW hS hl => ?_)
  obtain ⟨⟨hx, hb, hr, hml, hown, hts, hlocks, hK, hL, hE⟩, htb⟩ := id C0
  unfold f_L_matched at h
  refine lv_aload_n hx hb dL_matched_0 rfl (lv_at hl 2 rfl) ?_
  refine lv_iconst (v := 0) hx hb dL_matched_1 (by decide) ?_
  refine lv_aload_n hx hb dL_matched_2 rfl (lv_at hl 0 rfl) ?_
  refine lv_iload_n hx hb dL_matched_3 rfl (lv_at hl 1 rfl) ?_
  obtain ⟨g1, h⟩ := zg_some h
  obtain ⟨q2, M4, e3, h⟩ := zbp_some h
  refine z_xcalli hS (vx_runV (As := [.int x1]) (rest := [.int (0 : Int32), .ref (ad x2)]) ⟨hx, hb, hml, hown, hts⟩ (m_X6_matched l hlt hL N e3 H.size) (cwV 1 hts gL_matched_X6_matched rfl rfl rfl (by decide +kernel) ⟨Nat.le_of_ble_eq_true rfl, Nat.le_of_ble_eq_true rfl⟩) (z_preV (q := (RX6, TX6, 7)) hK hL hE hW hS (zK_of g1) (by decide) rfl [.int x1]) rfl rfl hl.1 rfl (lv_room (Nat.le_of_ble_eq_true rfl)) dL_matched_4 ⟨Nat.le_of_ble_eq_true rfl, Nat.le_of_ble_eq_true rfl⟩) (fun k hk H locs q9 ce hW hS hce hcv hcl => ?_) (fun r5 hk H locs hW hS => ?_)
  · subst hk
    have h := zx_l h
    by_cases hk1 : k = 1
    · subst hk1
      have h := zip rfl h
      refine vx_catch (own := RL) (name := "java/lang/IndexOutOfBoundsException") (E := "java/lang/IndexOutOfBoundsException") hown [] ⟨0, 9, 12, 19⟩ [⟨0, 9, 15, 13⟩] htb (fun z hz => by simp at hz) (by decide) (by decide) (hts (.classLink RL 19 "java/lang/IndexOutOfBoundsException") (by decide +kernel)) (va_Nw.use rfl (hE.1 (.castable "java/lang/IndexOutOfBoundsException" "java/lang/IndexOutOfBoundsException") (by decide +kernel))) hce hcv hcl ?_
      refine lv_astore_n (lv' := [(3, .ref q9), (0, .ref (ad x0)), (1, .int x1), (2, .ref (ad x2))]) hx hb dL_matched_12 rfl hl (by decide) rfl (fun ls hl => ?_)
      refine lv_iconst (v := 1) hx hb dL_matched_13 (by decide) ?_
      refine W.widen (k := 2) (n := 12) (Nat.le_of_ble_eq_true rfl) (Nat.le_of_ble_eq_true rfl) ?_
      exact z_iret hx hb hr hlocks hW hS (congrArg Prod.fst (Option.some.inj h)) (congrArg Prod.snd (Option.some.inj h)) dL_matched_14
    · have h := zin hk1 h
      by_cases hk3 : k = 3
      · subst hk3
        have h := zip rfl h
        refine vx_catch (own := RL) (name := "java/lang/IllegalStateException") (E := "java/lang/IllegalStateException") hown [⟨0, 9, 12, 19⟩] ⟨0, 9, 15, 13⟩ [] htb (fun z hz => by
            simp only [List.mem_cons, List.not_mem_nil, or_false] at hz
            rcases hz with rfl
            · exact Or.inr ⟨by decide, "java/lang/IndexOutOfBoundsException", hts (.classLink RL 19 "java/lang/IndexOutOfBoundsException") (by decide +kernel), hE.2.2.2.2.1 ("java/lang/IllegalStateException", "java/lang/IndexOutOfBoundsException") (by decide)⟩
            ) (by decide) (by decide) (hts (.classLink RL 13 "java/lang/IllegalStateException") (by decide +kernel)) (va_Nw.use rfl (hE.1 (.castable "java/lang/IllegalStateException" "java/lang/IllegalStateException") (by decide +kernel))) hce hcv hcl ?_
        refine lv_astore_n (lv' := [(3, .ref q9), (0, .ref (ad x0)), (1, .int x1), (2, .ref (ad x2))]) hx hb dL_matched_15 rfl hl (by decide) rfl (fun ls hl => ?_)
        refine lv_iconst (v := 2) hx hb dL_matched_16 (by decide) ?_
        refine W.widen (k := 2) (n := 12) (Nat.le_of_ble_eq_true rfl) (Nat.le_of_ble_eq_true rfl) ?_
        exact z_iret hx hb hr hlocks hW hS (congrArg Prod.fst (Option.some.inj h)) (congrArg Prod.snd (Option.some.inj h)) dL_matched_17
      · have h := zin hk3 h
        cases h
  subst hk
  have h := zx_r h
  refine lv_i2l hx hb dL_matched_7 rfl ?_
  obtain ⟨g6, h⟩ := zg_some h
  refine z_last hx hb hK hL hW hS g6 dL_matched_8 (fun H locs hW hS => ?_)
  obtain ⟨M7, eM8, h⟩ := zl_some h
  rw [← eM8] at hW
  refine lv_goto (tgt := 18) hx hb dL_matched_9 (by decide) ?_
  refine lv_iconst (v := 0) hx hb dL_matched_18 (by decide) ?_
  refine W.widen (k := 2) (n := 12) (Nat.le_of_ble_eq_true rfl) (Nat.le_of_ble_eq_true rfl) ?_
  exact z_iret hx hb hr hlocks hW hS (congrArg Prod.fst (Option.some.inj h)) (congrArg Prod.snd (Option.some.inj h)) dL_matched_19
def f_L_mend (N : Nat) (K len : Nat → Nat) (x0 : Nat) (x1 : Int32) (x2 : Nat) (M : ZM) : Option (Int32 × ZM) :=
zg (K x0 == 7) (
zbp (f_X6_mend N K len x0 x1 M) fun q2 M4 => (
zx q2 (fun k => (if k = 1 then some ((1 : Int32), M4) else (if k = 3 then some ((2 : Int32), M4) else none))) fun r5 => (
zg (zok K len x2 12 (0 : Int32)) (
zl (zsJ M4 x2 (0 : Int32).toNatClampNeg r5.toInt64) fun M7 => (
some ((0 : Int32), M7))))))
set_option maxRecDepth 100000 in
set_option maxHeartbeats 4000000 in
theorem m_L_mend (l : Launch) (hlt : l.stackTraces = false) {D : va_G} {cy : Nat → ClassId} {ad : Nat → Nat} {L : List Nat} {K len : Nat → Nat} (hL : zSh ad L K) (N : Nat) {x0 : Nat} {x1 : Int32} {x2 : Nat} {M Mr : ZM} {r : Int32} (h : f_L_mend N K len x0 x1 x2 M = some (r, Mr)) (sz : Nat) : Met l yL_mend wsL_mend ({ frames := 9, cells := 3, slots := 18, locals := 163 } : Room) (zPre D cy ad L K len sz [.ref (ad x0), .int x1, .ref (ad x2)] M) (zQi D cy ad L K len r Mr sz) 3 18 (zA ad L sz) := by
  refine z_wentry (hh := [(0, 9, 12, 19), (0, 9, 15, 13)]) (Qf := fun sz => zQi D cy ad L K len r Mr sz) (av := [.ref (ad x0), .int x1, .ref (ad x2)]) (by decide) rfl rfl hL (Nat.le_of_ble_eq_true rfl) (fun p e s m args below meth c C0 H locs ls hW hS hl => ?_)
  obtain ⟨⟨hx, hb, hr, hml, hown, hts, hlocks, hK, hL, hE⟩, htb⟩ := id C0
  unfold f_L_mend at h
  refine lv_aload_n hx hb dL_mend_0 rfl (lv_at hl 2 rfl) ?_
  refine lv_iconst (v := 0) hx hb dL_mend_1 (by decide) ?_
  refine lv_aload_n hx hb dL_mend_2 rfl (lv_at hl 0 rfl) ?_
  refine lv_iload_n hx hb dL_mend_3 rfl (lv_at hl 1 rfl) ?_
  obtain ⟨g1, h⟩ := zg_some h
  obtain ⟨q2, M4, e3, h⟩ := zbp_some h
  refine z_xcalli hS (vx_runV (As := [.int x1]) (rest := [.int (0 : Int32), .ref (ad x2)]) ⟨hx, hb, hml, hown, hts⟩ (m_X6_mend l hlt hL N e3 H.size) (cwV 1 hts gL_mend_X6_mend rfl rfl rfl (by decide +kernel) ⟨Nat.le_of_ble_eq_true rfl, Nat.le_of_ble_eq_true rfl⟩) (z_preV (q := (RX6, TX6, 7)) hK hL hE hW hS (zK_of g1) (by decide) rfl [.int x1]) rfl rfl hl.1 rfl (lv_room (Nat.le_of_ble_eq_true rfl)) dL_mend_4 ⟨Nat.le_of_ble_eq_true rfl, Nat.le_of_ble_eq_true rfl⟩) (fun k hk H locs q9 ce hW hS hce hcv hcl => ?_) (fun r5 hk H locs hW hS => ?_)
  · subst hk
    have h := zx_l h
    by_cases hk1 : k = 1
    · subst hk1
      have h := zip rfl h
      refine vx_catch (own := RL) (name := "java/lang/IndexOutOfBoundsException") (E := "java/lang/IndexOutOfBoundsException") hown [] ⟨0, 9, 12, 19⟩ [⟨0, 9, 15, 13⟩] htb (fun z hz => by simp at hz) (by decide) (by decide) (hts (.classLink RL 19 "java/lang/IndexOutOfBoundsException") (by decide +kernel)) (va_Nw.use rfl (hE.1 (.castable "java/lang/IndexOutOfBoundsException" "java/lang/IndexOutOfBoundsException") (by decide +kernel))) hce hcv hcl ?_
      refine lv_astore_n (lv' := [(3, .ref q9), (0, .ref (ad x0)), (1, .int x1), (2, .ref (ad x2))]) hx hb dL_mend_12 rfl hl (by decide) rfl (fun ls hl => ?_)
      refine lv_iconst (v := 1) hx hb dL_mend_13 (by decide) ?_
      refine W.widen (k := 3) (n := 18) (Nat.le_of_ble_eq_true rfl) (Nat.le_of_ble_eq_true rfl) ?_
      exact z_iret hx hb hr hlocks hW hS (congrArg Prod.fst (Option.some.inj h)) (congrArg Prod.snd (Option.some.inj h)) dL_mend_14
    · have h := zin hk1 h
      by_cases hk3 : k = 3
      · subst hk3
        have h := zip rfl h
        refine vx_catch (own := RL) (name := "java/lang/IllegalStateException") (E := "java/lang/IllegalStateException") hown [⟨0, 9, 12, 19⟩] ⟨0, 9, 15, 13⟩ [] htb (fun z hz => by
            simp only [List.mem_cons, List.not_mem_nil, or_false] at hz
            rcases hz with rfl
            · exact Or.inr ⟨by decide, "java/lang/IndexOutOfBoundsException", hts (.classLink RL 19 "java/lang/IndexOutOfBoundsException") (by decide +kernel), hE.2.2.2.2.1 ("java/lang/IllegalStateException", "java/lang/IndexOutOfBoundsException") (by decide)⟩
            ) (by decide) (by decide) (hts (.classLink RL 13 "java/lang/IllegalStateException") (by decide +kernel)) (va_Nw.use rfl (hE.1 (.castable "java/lang/IllegalStateException" "java/lang/IllegalStateException") (by decide +kernel))) hce hcv hcl ?_
        refine lv_astore_n (lv' := [(3, .ref q9), (0, .ref (ad x0)), (1, .int x1), (2, .ref (ad x2))]) hx hb dL_mend_15 rfl hl (by decide) rfl (fun ls hl => ?_)
        refine lv_iconst (v := 2) hx hb dL_mend_16 (by decide) ?_
        refine W.widen (k := 3) (n := 18) (Nat.le_of_ble_eq_true rfl) (Nat.le_of_ble_eq_true rfl) ?_
        exact z_iret hx hb hr hlocks hW hS (congrArg Prod.fst (Option.some.inj h)) (congrArg Prod.snd (Option.some.inj h)) dL_mend_17
      · have h := zin hk3 h
        cases h
  subst hk
  have h := zx_r h
  refine lv_i2l hx hb dL_mend_7 rfl ?_
  obtain ⟨g6, h⟩ := zg_some h
  refine z_last hx hb hK hL hW hS g6 dL_mend_8 (fun H locs hW hS => ?_)
  obtain ⟨M7, eM8, h⟩ := zl_some h
  rw [← eM8] at hW
  refine lv_goto (tgt := 18) hx hb dL_mend_9 (by decide) ?_
  refine lv_iconst (v := 0) hx hb dL_mend_18 (by decide) ?_
  refine W.widen (k := 3) (n := 18) (Nat.le_of_ble_eq_true rfl) (Nat.le_of_ble_eq_true rfl) ?_
  exact z_iret hx hb hr hlocks hW hS (congrArg Prod.fst (Option.some.inj h)) (congrArg Prod.snd (Option.some.inj h)) dL_mend_19
def f_L_average (N : Nat) (K len : Nat → Nat) (x0 : Nat) (x1 : Int32) (x2 : Nat) (M : ZM) : Option (Int32 × ZM) :=
zg (K x0 == 7) (
(f_X6_average N K len x0 x1 M).bind fun q2 => (
zx q2 (fun k => (if k = 1 then some ((1 : Int32), M) else none)) fun r4 => (
zg (zok K len x2 17 (0 : Int32)) (
zl (zsD M x2 (0 : Int32).toNatClampNeg r4) fun M6 => (
some ((0 : Int32), M6))))))
set_option maxRecDepth 100000 in
set_option maxHeartbeats 4000000 in
theorem m_L_average (l : Launch) (hlt : l.stackTraces = false) {D : va_G} {cy : Nat → ClassId} {ad : Nat → Nat} {L : List Nat} {K len : Nat → Nat} (hL : zSh ad L K) (N : Nat) {x0 : Nat} {x1 : Int32} {x2 : Nat} {M Mr : ZM} {r : Int32} (h : f_L_average N K len x0 x1 x2 M = some (r, Mr)) (sz : Nat) : Met l yL_average wsL_average ({ frames := 8, cells := 1, slots := 6, locals := 131 } : Room) (zPre D cy ad L K len sz [.ref (ad x0), .int x1, .ref (ad x2)] M) (zQi D cy ad L K len r Mr sz) 1 6 (zA ad L sz) := by
  refine z_wentry (hh := [(0, 8, 11, 19)]) (Qf := fun sz => zQi D cy ad L K len r Mr sz) (av := [.ref (ad x0), .int x1, .ref (ad x2)]) (by decide) rfl rfl hL (Nat.le_of_ble_eq_true rfl) (fun p e s m args below meth c C0 H locs ls hW hS hl => ?_)
  obtain ⟨⟨hx, hb, hr, hml, hown, hts, hlocks, hK, hL, hE⟩, htb⟩ := id C0
  unfold f_L_average at h
  refine lv_aload_n hx hb dL_average_0 rfl (lv_at hl 2 rfl) ?_
  refine lv_iconst (v := 0) hx hb dL_average_1 (by decide) ?_
  refine lv_aload_n hx hb dL_average_2 rfl (lv_at hl 0 rfl) ?_
  refine lv_iload_n hx hb dL_average_3 rfl (lv_at hl 1 rfl) ?_
  obtain ⟨g1, h⟩ := zg_some h
  obtain ⟨q2, e3, h⟩ := zb_some h
  refine z_xcalld hS (vx_runV (As := [.int x1]) (rest := [.int (0 : Int32), .ref (ad x2)]) ⟨hx, hb, hml, hown, hts⟩ (m_X6_average l hlt hL N e3 H.size) (cwV 1 hts gL_average_X6_average rfl rfl rfl (by decide +kernel) ⟨Nat.le_of_ble_eq_true rfl, Nat.le_of_ble_eq_true rfl⟩) (z_preV (q := (RX6, TX6, 7)) hK hL hE hW hS (zK_of g1) (by decide) rfl [.int x1]) rfl rfl hl.1 rfl (lv_room (Nat.le_of_ble_eq_true rfl)) dL_average_4 ⟨Nat.le_of_ble_eq_true rfl, Nat.le_of_ble_eq_true rfl⟩) (fun k hk H locs q9 ce hW hS hce hcv hcl => ?_) (fun r4 hk H locs hW hS => ?_)
  · subst hk
    have h := zx_l h
    by_cases hk1 : k = 1
    · subst hk1
      have h := zip rfl h
      refine vx_catch (own := RL) (name := "java/lang/IndexOutOfBoundsException") (E := "java/lang/IndexOutOfBoundsException") hown [] ⟨0, 8, 11, 19⟩ [] htb (fun z hz => by simp at hz) (by decide) (by decide) (hts (.classLink RL 19 "java/lang/IndexOutOfBoundsException") (by decide +kernel)) (va_Nw.use rfl (hE.1 (.castable "java/lang/IndexOutOfBoundsException" "java/lang/IndexOutOfBoundsException") (by decide +kernel))) hce hcv hcl ?_
      refine lv_astore_n (lv' := [(3, .ref q9), (0, .ref (ad x0)), (1, .int x1), (2, .ref (ad x2))]) hx hb dL_average_11 rfl hl (by decide) rfl (fun ls hl => ?_)
      refine lv_iconst (v := 1) hx hb dL_average_12 (by decide) ?_
      refine W.widen (k := 1) (n := 6) (Nat.le_of_ble_eq_true rfl) (Nat.le_of_ble_eq_true rfl) ?_
      exact z_iret hx hb hr hlocks hW hS (congrArg Prod.fst (Option.some.inj h)) (congrArg Prod.snd (Option.some.inj h)) dL_average_13
    · have h := zin hk1 h
      cases h
  subst hk
  have h := zx_r h
  obtain ⟨g5, h⟩ := zg_some h
  refine z_dast hx hb hK hL hW hS g5 dL_average_7 (fun H locs hW hS => ?_)
  obtain ⟨M6, eM7, h⟩ := zl_some h
  rw [← eM7] at hW
  refine lv_goto (tgt := 14) hx hb dL_average_8 (by decide) ?_
  refine lv_iconst (v := 0) hx hb dL_average_14 (by decide) ?_
  refine W.widen (k := 1) (n := 6) (Nat.le_of_ble_eq_true rfl) (Nat.le_of_ble_eq_true rfl) ?_
  exact z_iret hx hb hr hlocks hW hS (congrArg Prod.fst (Option.some.inj h)) (congrArg Prod.snd (Option.some.inj h)) dL_average_15
def f_L_rollBack (N : Nat) (K len : Nat → Nat) (x0 : Nat) (x1 : Nat) (M : ZM) : Option (Int32 × ZM) :=
zg (K x0 == 7) (
zbp (f_X6_rollBack N K len x0 M) fun q2 M4 => (
zx q2 (fun k => (if k = 3 then some ((1 : Int32), M4) else none)) fun r5 => (
zg (zok K len x1 12 (0 : Int32)) (
zl (zsJ M4 x1 (0 : Int32).toNatClampNeg r5.toInt64) fun M7 => (
some ((0 : Int32), M7))))))
set_option maxRecDepth 100000 in
set_option maxHeartbeats 4000000 in
theorem m_L_rollBack (l : Launch) (hlt : l.stackTraces = false) {D : va_G} {cy : Nat → ClassId} {ad : Nat → Nat} {L : List Nat} {K len : Nat → Nat} (hL : zSh ad L K) (N : Nat) {x0 : Nat} {x1 : Nat} {M Mr : ZM} {r : Int32} (h : f_L_rollBack N K len x0 x1 M = some (r, Mr)) (sz : Nat) : Met l yL_rollBack wsL_rollBack ({ frames := 7, cells := 1, slots := 6, locals := 110 } : Room) (zPre D cy ad L K len sz [.ref (ad x0), .ref (ad x1)] M) (zQi D cy ad L K len r Mr sz) 1 6 (zA ad L sz) := by
  refine z_wentry (hh := [(0, 8, 11, 13)]) (Qf := fun sz => zQi D cy ad L K len r Mr sz) (av := [.ref (ad x0), .ref (ad x1)]) (by decide) rfl rfl hL (Nat.le_of_ble_eq_true rfl) (fun p e s m args below meth c C0 H locs ls hW hS hl => ?_)
  obtain ⟨⟨hx, hb, hr, hml, hown, hts, hlocks, hK, hL, hE⟩, htb⟩ := id C0
  unfold f_L_rollBack at h
  refine lv_aload_n hx hb dL_rollBack_0 rfl (lv_at hl 1 rfl) ?_
  refine lv_iconst (v := 0) hx hb dL_rollBack_1 (by decide) ?_
  refine lv_aload_n hx hb dL_rollBack_2 rfl (lv_at hl 0 rfl) ?_
  obtain ⟨g1, h⟩ := zg_some h
  obtain ⟨q2, M4, e3, h⟩ := zbp_some h
  refine z_xcalli hS (vx_runV (As := []) (rest := [.int (0 : Int32), .ref (ad x1)]) ⟨hx, hb, hml, hown, hts⟩ (m_X6_rollBack l hlt hL N e3 H.size) (cwV 0 hts gL_rollBack_X6_rollBack rfl rfl rfl (by decide +kernel) ⟨Nat.le_of_ble_eq_true rfl, Nat.le_of_ble_eq_true rfl⟩) (z_preV (q := (RX6, TX6, 7)) hK hL hE hW hS (zK_of g1) (by decide) rfl []) rfl rfl hl.1 rfl (lv_room (Nat.le_of_ble_eq_true rfl)) dL_rollBack_3 ⟨Nat.le_of_ble_eq_true rfl, Nat.le_of_ble_eq_true rfl⟩) (fun k hk H locs q9 ce hW hS hce hcv hcl => ?_) (fun r5 hk H locs hW hS => ?_)
  · subst hk
    have h := zx_l h
    by_cases hk3 : k = 3
    · subst hk3
      have h := zip rfl h
      refine vx_catch (own := RL) (name := "java/lang/IllegalStateException") (E := "java/lang/IllegalStateException") hown [] ⟨0, 8, 11, 13⟩ [] htb (fun z hz => by simp at hz) (by decide) (by decide) (hts (.classLink RL 13 "java/lang/IllegalStateException") (by decide +kernel)) (va_Nw.use rfl (hE.1 (.castable "java/lang/IllegalStateException" "java/lang/IllegalStateException") (by decide +kernel))) hce hcv hcl ?_
      refine lv_astore_n (lv' := [(2, .ref q9), (0, .ref (ad x0)), (1, .ref (ad x1))]) hx hb dL_rollBack_11 rfl hl (by decide) rfl (fun ls hl => ?_)
      refine lv_iconst (v := 1) hx hb dL_rollBack_12 (by decide) ?_
      refine W.widen (k := 1) (n := 6) (Nat.le_of_ble_eq_true rfl) (Nat.le_of_ble_eq_true rfl) ?_
      exact z_iret hx hb hr hlocks hW hS (congrArg Prod.fst (Option.some.inj h)) (congrArg Prod.snd (Option.some.inj h)) dL_rollBack_13
    · have h := zin hk3 h
      cases h
  subst hk
  have h := zx_r h
  refine lv_i2l hx hb dL_rollBack_6 rfl ?_
  obtain ⟨g6, h⟩ := zg_some h
  refine z_last hx hb hK hL hW hS g6 dL_rollBack_7 (fun H locs hW hS => ?_)
  obtain ⟨M7, eM8, h⟩ := zl_some h
  rw [← eM8] at hW
  refine lv_goto (tgt := 14) hx hb dL_rollBack_8 (by decide) ?_
  refine lv_iconst (v := 0) hx hb dL_rollBack_14 (by decide) ?_
  refine W.widen (k := 1) (n := 6) (Nat.le_of_ble_eq_true rfl) (Nat.le_of_ble_eq_true rfl) ?_
  exact z_iret hx hb hr hlocks hW hS (congrArg Prod.fst (Option.some.inj h)) (congrArg Prod.snd (Option.some.inj h)) dL_rollBack_15

/-! Walks laid by program (wip/whole/gen): X6_addWord, X6_words, X6_kind, X6_setWeight, X6_weight, X6_feature, X6_score, X6_mark, X6_trees, X6_best, X6_bestByTrying, X6_head, X6_crossings, X6_ranked, X6_rankedHead, X6_correct, X6_matched, X6_mend, X6_rollBack -/
def f_X6_addWord_15 (N : Nat) (K len : Nat → Nat) (M : ZM) : Option ((Nat ⊕ Int32) × ZM) :=
some (Sum.inl 2, M)
set_option maxRecDepth 100000 in
set_option maxHeartbeats 4000000 in
theorem t_X6_addWord_15 {p : Program} {l : Launch} {e : Env} {s : State} {m : MethodId} {args : Array Value} {below : List Frame} {meth : Method} {c : Code} {D : va_G} {cy : Nat → ClassId} {ad : Nat → Nat} {L : List Nat} {K len : Nat → Nat} (C0 : zCxX p l s m c meth args cX6_addWord 4 wsX6_addWord RX6 (some .int) D cy ad L K) (N : Nat) {M : ZM} {o : Nat ⊕ Int32} {Mr : ZM} (h : f_X6_addWord_15 N K len M = some (o, Mr)) {H : Heap} {locs : List Loc} {ls : Array Slot} (hW : zWd D cy ad L K len M H) (hS : va_S (zA ad L s.heap.size) s.heap H locs) (hl : lv_has ls 4 []) : W p l e (headSpec wsX6_addWord ({ frames := 7, cells := 2, slots := 12, locals := 112 } : Room)).room s m args below meth c H locs 1 6 (vx_MQ below (zY D cy ad L K len zvI o Mr s.heap.size) (zX D cy ad L K len o Mr s.heap.size) args s 2 12 (zA ad L s.heap.size)) (F0 m 15 ls []) := by
  obtain ⟨⟨hx, hb, hr, hml, hown, hts, hlocks, hK, hL, hE⟩, hlt, hex⟩ := id C0
  unfold f_X6_addWord_15 at h
  have hgw : ∀ w ∈ (vx_atS RX6 70 (zexn 2) znames).filter goodWord, w ∈ wsX6_addWord := by decide +kernel
  exact z_throw (own := RX6) (k := 2) (ik := 66) (is := 68) (ic := 70) (text := "the kind is out of range") (names := znames) hx hb hlt hown zfit2 znames_fit (hts (.classLink RX6 66 "java/lang/IllegalArgumentException") (by decide +kernel)) (hts (.initialized "java/lang/IllegalArgumentException") (by decide +kernel)) (hE.2.2.2.1 (68, "the kind is out of range") (by decide)) (vx_hat (B := znw) (fun w hw => hts w (hgw w hw)) (by decide +kernel) (znw_use hE.1)) (by decide +kernel) hE hW hS (hl.1.trans hml.symm) dX6_addWord_15 dX6_addWord_18 dX6_addWord_19 dX6_addWord_21 dX6_addWord_24 hex (congrArg Prod.fst (Option.some.inj h)).symm (congrArg Prod.snd (Option.some.inj h)) (Nat.le_of_ble_eq_true rfl) (Nat.le_of_ble_eq_true rfl) (Nat.le_of_ble_eq_true rfl) (Nat.le_of_ble_eq_true rfl) hlocks (Nat.le_of_ble_eq_true rfl) (Nat.le_of_ble_eq_true rfl)
def f_X6_addWord_0 (N : Nat) (K len : Nat → Nat) (x0 : Nat) (x1 : Int32) (x2 : Int32) (M : ZM) : Option ((Nat ⊕ Int32) × ZM) :=
zg (K x0 == 7) (
(f_X6_find N K len x0 x1 M).bind fun q1 => (
zx q1 (fun k => some (Sum.inl k, M)) fun r4 => (
(if x2 < 0 then
f_X6_addWord_15 N K len  M
else
(if x2 < (4 : Int32) then
(f_X2_size N K len r4 M).bind fun q7 => (
zg (K r4 == 3) (
(if q7 < (6 : Int32) then
(f_X2_append N K len r4 x2 M).bind fun M13 => (
(f_X2_size N K len r4 M13).bind fun q14 => (
some (Sum.inr q14, M13)))
else
some (Sum.inl 3, M))))
else
f_X6_addWord_15 N K len  M)))))
set_option maxRecDepth 100000 in
set_option maxHeartbeats 4000000 in
theorem t_X6_addWord_0 {p : Program} {l : Launch} {e : Env} {s : State} {m : MethodId} {args : Array Value} {below : List Frame} {meth : Method} {c : Code} {D : va_G} {cy : Nat → ClassId} {ad : Nat → Nat} {L : List Nat} {K len : Nat → Nat} (C0 : zCxX p l s m c meth args cX6_addWord 4 wsX6_addWord RX6 (some .int) D cy ad L K) (N : Nat) {x0 : Nat} {x1 : Int32} {x2 : Int32} {M : ZM} {o : Nat ⊕ Int32} {Mr : ZM} (h : f_X6_addWord_0 N K len x0 x1 x2 M = some (o, Mr)) {H : Heap} {locs : List Loc} {ls : Array Slot} (hW : zWd D cy ad L K len M H) (hS : va_S (zA ad L s.heap.size) s.heap H locs) (hl : lv_has ls 4 [(0, .ref (ad x0)), (1, .int x1), (2, .int x2)]) : W p l e (headSpec wsX6_addWord ({ frames := 7, cells := 2, slots := 12, locals := 112 } : Room)).room s m args below meth c H locs 0 0 (vx_MQ below (zY D cy ad L K len zvI o Mr s.heap.size) (zX D cy ad L K len o Mr s.heap.size) args s 2 12 (zA ad L s.heap.size)) (F0 m 0 ls []) := by
  obtain ⟨⟨hx, hb, hr, hml, hown, hts, hlocks, hK, hL, hE⟩, hlt, hex⟩ := id C0
  unfold f_X6_addWord_0 at h
  refine lv_aload_n hx hb dX6_addWord_0 rfl (lv_at hl 0 rfl) ?_
  refine lv_iload_n hx hb dX6_addWord_1 rfl (lv_at hl 1 rfl) ?_
  obtain ⟨g3, h⟩ := zg_some h
  obtain ⟨q1, e2, h⟩ := zb_some h
  refine z_xcallr hS (vx_runV (As := [.int x1]) (rest := []) ⟨hx, hb, hml, hown, hts⟩ (m_X6_find l hlt hL N e2 H.size) (cwV 1 hts gX6_addWord_X6_find rfl rfl rfl (by decide +kernel) ⟨Nat.le_of_ble_eq_true rfl, Nat.le_of_ble_eq_true rfl⟩) (z_preV (q := (RX6, TX6, 7)) hK hL hE hW hS (zK_of g3) (by decide) rfl [.int x1]) rfl rfl hl.1 rfl (lv_room (Nat.le_of_ble_eq_true rfl)) dX6_addWord_2 ⟨Nat.le_of_ble_eq_true rfl, Nat.le_of_ble_eq_true rfl⟩) (fun k hk H locs q9 ce hW hS hce hcv hcl => by subst hk; have h := zx_l h; exact z_xout hex hlocks (congrArg Prod.fst (Option.some.inj h)).symm (congrArg Prod.snd (Option.some.inj h)) hW hS hce hcv hcl (Nat.le_of_ble_eq_true rfl) (Nat.le_of_ble_eq_true rfl)) (fun r4 hk H locs hW hS => ?_)
  subst hk
  have h := zx_r h
  refine lv_astore_n (lv' := [(3, .ref (ad r4)), (0, .ref (ad x0)), (1, .int x1), (2, .int x2)]) hx hb dX6_addWord_5 rfl hl (by decide) rfl (fun ls hl => ?_)
  refine lv_iload_n hx hb dX6_addWord_6 rfl (lv_at hl 3 rfl) ?_
  refine lv_if_lt (tgt := 15) hx hb dX6_addWord_7 (by decide) (fun c5 => ?_) (fun c5 => ?_)
  · have h := zip c5 h
    exact t_X6_addWord_15 C0 N  h hW hS (lv_sub hl [] rfl)
  · have h := zin c5 h
    refine lv_iload_n hx hb dX6_addWord_10 rfl (lv_at hl 3 rfl) ?_
    refine lv_iconst (v := 4) hx hb dX6_addWord_11 (by decide) ?_
    refine lv_icmp_lt (tgt := 25) hx hb dX6_addWord_12 (by decide) (fun c6 => ?_) (fun c6 => ?_)
    · have h := zip c6 h
      refine lv_aload_n hx hb dX6_addWord_25 rfl (lv_at hl 0 rfl) ?_
      obtain ⟨q7, e8, h⟩ := zb_some h
      obtain ⟨g9, h⟩ := zg_some h
      refine z_calli hS (va_runV (As := []) (rest := []) ⟨hx, hb, hml, hown, hts⟩ (m_X2_size l hL N e8 H.size) (cwV 0 hts gX6_addWord_X2_size rfl rfl rfl (by decide +kernel) ⟨Nat.le_of_ble_eq_true rfl, Nat.le_of_ble_eq_true rfl⟩) (z_preV (q := (RX2, TX2, 4)) hK hL hE hW hS (zK_of g9) (by decide) rfl []) rfl rfl hl.1 rfl (lv_room (Nat.le_of_ble_eq_true rfl)) dX6_addWord_26 ⟨Nat.le_of_ble_eq_true rfl, Nat.le_of_ble_eq_true rfl⟩) (fun H locs hW hS => ?_)
      refine lv_bipush (v := 6) hx hb dX6_addWord_29 (by decide) ?_
      refine lv_icmp_lt (tgt := 44) hx hb dX6_addWord_31 (by decide) (fun c10 => ?_) (fun c10 => ?_)
      · have h := zip c10 h
        refine lv_aload_n hx hb dX6_addWord_44 rfl (lv_at hl 0 rfl) ?_
        refine lv_iload_n hx hb dX6_addWord_45 rfl (lv_at hl 3 rfl) ?_
        obtain ⟨M13, e12, h⟩ := zb_some h
        refine z_callv hS (va_runV (As := [.int x2]) (rest := []) ⟨hx, hb, hml, hown, hts⟩ (m_X2_append l hL N e12 H.size) (cwV 1 hts gX6_addWord_X2_append rfl rfl rfl (by decide +kernel) ⟨Nat.le_of_ble_eq_true rfl, Nat.le_of_ble_eq_true rfl⟩) (z_preV (q := (RX2, TX2, 4)) hK hL hE hW hS (zK_of g9) (by decide) rfl [.int x2]) rfl rfl hl.1 rfl (lv_room (Nat.le_of_ble_eq_true rfl)) dX6_addWord_46 ⟨Nat.le_of_ble_eq_true rfl, Nat.le_of_ble_eq_true rfl⟩) (fun H locs hW hS => ?_)
        refine lv_aload_n hx hb dX6_addWord_49 rfl (lv_at hl 0 rfl) ?_
        obtain ⟨q14, e15, h⟩ := zb_some h
        refine z_calli hS (va_runV (As := []) (rest := []) ⟨hx, hb, hml, hown, hts⟩ (m_X2_size l hL N e15 H.size) (cwV 0 hts gX6_addWord_X2_size rfl rfl rfl (by decide +kernel) ⟨Nat.le_of_ble_eq_true rfl, Nat.le_of_ble_eq_true rfl⟩) (z_preV (q := (RX2, TX2, 4)) hK hL hE hW hS (zK_of g9) (by decide) rfl []) rfl rfl hl.1 rfl (lv_room (Nat.le_of_ble_eq_true rfl)) dX6_addWord_50 ⟨Nat.le_of_ble_eq_true rfl, Nat.le_of_ble_eq_true rfl⟩) (fun H locs hW hS => ?_)
        exact z_xiret hx hb hr hlocks hW hS (congrArg Prod.fst (Option.some.inj h)) (congrArg Prod.snd (Option.some.inj h)) dX6_addWord_53 (Nat.le_of_ble_eq_true rfl) (Nat.le_of_ble_eq_true rfl)
      · have h := zin c10 h
        have hgw : ∀ w ∈ (vx_atS RX6 58 (zexn 3) znames).filter goodWord, w ∈ wsX6_addWord := by decide +kernel
        exact z_throw (own := RX6) (k := 3) (ik := 54) (is := 75) (ic := 58) (text := "no more words can be added") (names := znames) hx hb hlt hown zfit3 znames_fit (hts (.classLink RX6 54 "java/lang/IllegalStateException") (by decide +kernel)) (hts (.initialized "java/lang/IllegalStateException") (by decide +kernel)) (hE.2.2.2.1 (75, "no more words can be added") (by decide)) (vx_hat (B := znw) (fun w hw => hts w (hgw w hw)) (by decide +kernel) (znw_use hE.1)) (by decide +kernel) hE hW hS (hl.1.trans hml.symm) dX6_addWord_34 dX6_addWord_37 dX6_addWord_38 dX6_addWord_40 dX6_addWord_43 hex (congrArg Prod.fst (Option.some.inj h)).symm (congrArg Prod.snd (Option.some.inj h)) (Nat.le_of_ble_eq_true rfl) (Nat.le_of_ble_eq_true rfl) (Nat.le_of_ble_eq_true rfl) (Nat.le_of_ble_eq_true rfl) hlocks (Nat.le_of_ble_eq_true rfl) (Nat.le_of_ble_eq_true rfl)
    · have h := zin c6 h
      exact t_X6_addWord_15 C0 N  h hW hS (lv_sub hl [] rfl)
def f_X6_addWord (N : Nat) (K len : Nat → Nat) (a0 : Nat) (a1 : Int32) (a2 : Int32) (M : ZM) : Option ((Nat ⊕ Int32) × ZM) := f_X6_addWord_0 N K len a0 a1 a2 M
set_option maxRecDepth 100000 in
set_option maxHeartbeats 4000000 in
theorem m_X6_addWord (l : Launch) (hlt : l.stackTraces = false) {D : va_G} {cy : Nat → ClassId} {ad : Nat → Nat} {L : List Nat} {K len : Nat → Nat} (hL : zSh ad L K) (N : Nat) {a0 : Nat} {a1 : Int32} {a2 : Int32} {M : ZM} {o : Nat ⊕ Int32} {Mr : ZM} (h : f_X6_addWord N K len a0 a1 a2 M = some (o, Mr)) (sz : Nat) : vx_Met l yX6_addWord wsX6_addWord ({ frames := 7, cells := 2, slots := 12, locals := 112 } : Room) (zPre D cy ad L K len sz [.ref (ad a0), .int a1, .int a2] M) (zY D cy ad L K len zvI o Mr sz) (zX D cy ad L K len o Mr sz) 2 12 (zA ad L sz) :=
  z_xentry hlt (Qf := fun sz => zY D cy ad L K len zvI o Mr sz) (Xf := fun sz => zX D cy ad L K len o Mr sz) (av := [.ref (ad a0), .int a1, .int a2]) (by decide) rfl rfl hL (Nat.le_of_ble_eq_true rfl) (fun p e s m args below meth c C0 H locs ls hW hS hl => t_X6_addWord_0 C0 N h hW hS (lv_sub hl [0, 1, 2] rfl))
def f_X6_words_0 (N : Nat) (K len : Nat → Nat) (x0 : Nat) (x1 : Int32) (M : ZM) : Option (Nat ⊕ Int32) :=
zg (K x0 == 7) (
(f_X6_find N K len x0 x1 M).bind fun q1 => (
zx q1 (fun k => some (Sum.inl k)) fun r4 => (
(f_X2_size N K len r4 M).bind fun q5 => (
zg (K r4 == 3) (
some (Sum.inr q5))))))
set_option maxRecDepth 100000 in
set_option maxHeartbeats 4000000 in
theorem t_X6_words_0 {p : Program} {l : Launch} {e : Env} {s : State} {m : MethodId} {args : Array Value} {below : List Frame} {meth : Method} {c : Code} {D : va_G} {cy : Nat → ClassId} {ad : Nat → Nat} {L : List Nat} {K len : Nat → Nat} (C0 : zCxX p l s m c meth args cX6_words 2 wsX6_words RX6 (some .int) D cy ad L K) (N : Nat) {x0 : Nat} {x1 : Int32} {M : ZM} {o : Nat ⊕ Int32} (h : f_X6_words_0 N K len x0 x1 M = some o) {H : Heap} {locs : List Loc} {ls : Array Slot} (hW : zWd D cy ad L K len M H) (hS : va_S (zA ad L s.heap.size) s.heap H locs) (hl : lv_has ls 2 [(0, .ref (ad x0)), (1, .int x1)]) : W p l e (headSpec wsX6_words ({ frames := 7, cells := 1, slots := 6, locals := 112 } : Room)).room s m args below meth c H locs 0 0 (vx_MQ below (zY D cy ad L K len zvI o M s.heap.size) (zX D cy ad L K len o M s.heap.size) args s 1 6 (zA ad L s.heap.size)) (F0 m 0 ls []) := by
  obtain ⟨⟨hx, hb, hr, hml, hown, hts, hlocks, hK, hL, hE⟩, hlt, hex⟩ := id C0
  unfold f_X6_words_0 at h
  refine lv_aload_n hx hb dX6_words_0 rfl (lv_at hl 0 rfl) ?_
  refine lv_iload_n hx hb dX6_words_1 rfl (lv_at hl 1 rfl) ?_
  obtain ⟨g3, h⟩ := zg_some h
  obtain ⟨q1, e2, h⟩ := zb_some h
  refine z_xcallr hS (vx_runV (As := [.int x1]) (rest := []) ⟨hx, hb, hml, hown, hts⟩ (m_X6_find l hlt hL N e2 H.size) (cwV 1 hts gX6_words_X6_find rfl rfl rfl (by decide +kernel) ⟨Nat.le_of_ble_eq_true rfl, Nat.le_of_ble_eq_true rfl⟩) (z_preV (q := (RX6, TX6, 7)) hK hL hE hW hS (zK_of g3) (by decide) rfl [.int x1]) rfl rfl hl.1 rfl (lv_room (Nat.le_of_ble_eq_true rfl)) dX6_words_2 ⟨Nat.le_of_ble_eq_true rfl, Nat.le_of_ble_eq_true rfl⟩) (fun k hk H locs q9 ce hW hS hce hcv hcl => by subst hk; have h := zx_l h; exact z_xout hex hlocks (Option.some.inj h).symm rfl hW hS hce hcv hcl (Nat.le_of_ble_eq_true rfl) (Nat.le_of_ble_eq_true rfl)) (fun r4 hk H locs hW hS => ?_)
  subst hk
  have h := zx_r h
  obtain ⟨q5, e6, h⟩ := zb_some h
  obtain ⟨g7, h⟩ := zg_some h
  refine z_calli hS (va_runV (As := []) (rest := []) ⟨hx, hb, hml, hown, hts⟩ (m_X2_size l hL N e6 H.size) (cwV 0 hts gX6_words_X2_size rfl rfl rfl (by decide +kernel) ⟨Nat.le_of_ble_eq_true rfl, Nat.le_of_ble_eq_true rfl⟩) (z_preV (q := (RX2, TX2, 4)) hK hL hE hW hS (zK_of g7) (by decide) rfl []) rfl rfl hl.1 rfl (lv_room (Nat.le_of_ble_eq_true rfl)) dX6_words_5 ⟨Nat.le_of_ble_eq_true rfl, Nat.le_of_ble_eq_true rfl⟩) (fun H locs hW hS => ?_)
  exact z_xiret hx hb hr hlocks hW hS (Option.some.inj h) rfl dX6_words_8 (Nat.le_of_ble_eq_true rfl) (Nat.le_of_ble_eq_true rfl)
def f_X6_words (N : Nat) (K len : Nat → Nat) (a0 : Nat) (a1 : Int32) (M : ZM) : Option (Nat ⊕ Int32) := f_X6_words_0 N K len a0 a1 M
set_option maxRecDepth 100000 in
set_option maxHeartbeats 4000000 in
theorem m_X6_words (l : Launch) (hlt : l.stackTraces = false) {D : va_G} {cy : Nat → ClassId} {ad : Nat → Nat} {L : List Nat} {K len : Nat → Nat} (hL : zSh ad L K) (N : Nat) {a0 : Nat} {a1 : Int32} {M : ZM} {o : Nat ⊕ Int32} (h : f_X6_words N K len a0 a1 M = some o) (sz : Nat) : vx_Met l yX6_words wsX6_words ({ frames := 7, cells := 1, slots := 6, locals := 112 } : Room) (zPre D cy ad L K len sz [.ref (ad a0), .int a1] M) (zY D cy ad L K len zvI o M sz) (zX D cy ad L K len o M sz) 1 6 (zA ad L sz) :=
  z_xentry hlt (Qf := fun sz => zY D cy ad L K len zvI o M sz) (Xf := fun sz => zX D cy ad L K len o M sz) (av := [.ref (ad a0), .int a1]) (by decide) rfl rfl hL (Nat.le_of_ble_eq_true rfl) (fun p e s m args below meth c C0 H locs ls hW hS hl => t_X6_words_0 C0 N h hW hS (lv_sub hl [0, 1] rfl))
def f_X6_kind_0 (N : Nat) (K len : Nat → Nat) (x0 : Nat) (x1 : Int32) (x2 : Int32) (M : ZM) : Option (Nat ⊕ Int32) :=
zg (K x0 == 7) (
(f_X6_find N K len x0 x1 M).bind fun q1 => (
zx q1 (fun k => some (Sum.inl k)) fun r4 => (
(f_X6_checkWord N K len r4 x2 M).bind fun q5 => (
zx q5 (fun k => some (Sum.inl k)) fun r7 => (
(f_X2_kindAt N K len r4 x2 M).bind fun q8 => (
zg (K r4 == 3) (
some (Sum.inr q8))))))))
set_option maxRecDepth 100000 in
set_option maxHeartbeats 4000000 in
theorem t_X6_kind_0 {p : Program} {l : Launch} {e : Env} {s : State} {m : MethodId} {args : Array Value} {below : List Frame} {meth : Method} {c : Code} {D : va_G} {cy : Nat → ClassId} {ad : Nat → Nat} {L : List Nat} {K len : Nat → Nat} (C0 : zCxX p l s m c meth args cX6_kind 4 wsX6_kind RX6 (some .int) D cy ad L K) (N : Nat) {x0 : Nat} {x1 : Int32} {x2 : Int32} {M : ZM} {o : Nat ⊕ Int32} (h : f_X6_kind_0 N K len x0 x1 x2 M = some o) {H : Heap} {locs : List Loc} {ls : Array Slot} (hW : zWd D cy ad L K len M H) (hS : va_S (zA ad L s.heap.size) s.heap H locs) (hl : lv_has ls 4 [(0, .ref (ad x0)), (1, .int x1), (2, .int x2)]) : W p l e (headSpec wsX6_kind ({ frames := 7, cells := 2, slots := 12, locals := 112 } : Room)).room s m args below meth c H locs 0 0 (vx_MQ below (zY D cy ad L K len zvI o M s.heap.size) (zX D cy ad L K len o M s.heap.size) args s 2 12 (zA ad L s.heap.size)) (F0 m 0 ls []) := by
  obtain ⟨⟨hx, hb, hr, hml, hown, hts, hlocks, hK, hL, hE⟩, hlt, hex⟩ := id C0
  unfold f_X6_kind_0 at h
  refine lv_aload_n hx hb dX6_kind_0 rfl (lv_at hl 0 rfl) ?_
  refine lv_iload_n hx hb dX6_kind_1 rfl (lv_at hl 1 rfl) ?_
  obtain ⟨g3, h⟩ := zg_some h
  obtain ⟨q1, e2, h⟩ := zb_some h
  refine z_xcallr hS (vx_runV (As := [.int x1]) (rest := []) ⟨hx, hb, hml, hown, hts⟩ (m_X6_find l hlt hL N e2 H.size) (cwV 1 hts gX6_kind_X6_find rfl rfl rfl (by decide +kernel) ⟨Nat.le_of_ble_eq_true rfl, Nat.le_of_ble_eq_true rfl⟩) (z_preV (q := (RX6, TX6, 7)) hK hL hE hW hS (zK_of g3) (by decide) rfl [.int x1]) rfl rfl hl.1 rfl (lv_room (Nat.le_of_ble_eq_true rfl)) dX6_kind_2 ⟨Nat.le_of_ble_eq_true rfl, Nat.le_of_ble_eq_true rfl⟩) (fun k hk H locs q9 ce hW hS hce hcv hcl => by subst hk; have h := zx_l h; exact z_xout hex hlocks (Option.some.inj h).symm rfl hW hS hce hcv hcl (Nat.le_of_ble_eq_true rfl) (Nat.le_of_ble_eq_true rfl)) (fun r4 hk H locs hW hS => ?_)
  subst hk
  have h := zx_r h
  refine lv_astore_n (lv' := [(3, .ref (ad r4)), (0, .ref (ad x0)), (1, .int x1), (2, .int x2)]) hx hb dX6_kind_5 rfl hl (by decide) rfl (fun ls hl => ?_)
  refine lv_aload_n hx hb dX6_kind_6 rfl (lv_at hl 0 rfl) ?_
  refine lv_iload_n hx hb dX6_kind_7 rfl (lv_at hl 3 rfl) ?_
  obtain ⟨q5, e6, h⟩ := zb_some h
  refine z_xcallv hS (vx_runS (As := [.ref (ad r4), .int x2]) (rest := []) ⟨hx, hb, hml, hown, hts⟩ (m_X6_checkWord l hlt hL N e6 H.size) (va_cwS 2 hts gX6_kind_X6_checkWord rfl rfl rfl (by decide +kernel) ⟨Nat.le_of_ble_eq_true rfl, Nat.le_of_ble_eq_true rfl⟩) (z_preS hK hE hW hS [.ref (ad r4), .int x2]) rfl rfl hl.1 rfl (lv_room (Nat.le_of_ble_eq_true rfl)) dX6_kind_8 ⟨Nat.le_of_ble_eq_true rfl, Nat.le_of_ble_eq_true rfl⟩) (fun k hk H locs q9 ce hW hS hce hcv hcl => by subst hk; have h := zx_l h; exact z_xout hex hlocks (Option.some.inj h).symm rfl hW hS hce hcv hcl (Nat.le_of_ble_eq_true rfl) (Nat.le_of_ble_eq_true rfl)) (fun r7 hk H locs hW hS => ?_)
  subst hk
  have h := zx_r h
  refine lv_aload_n hx hb dX6_kind_11 rfl (lv_at hl 0 rfl) ?_
  refine lv_iload_n hx hb dX6_kind_12 rfl (lv_at hl 3 rfl) ?_
  obtain ⟨q8, e9, h⟩ := zb_some h
  obtain ⟨g10, h⟩ := zg_some h
  refine z_calli hS (va_runV (As := [.int x2]) (rest := []) ⟨hx, hb, hml, hown, hts⟩ (m_X2_kindAt l hL N e9 H.size) (cwV 1 hts gX6_kind_X2_kindAt rfl rfl rfl (by decide +kernel) ⟨Nat.le_of_ble_eq_true rfl, Nat.le_of_ble_eq_true rfl⟩) (z_preV (q := (RX2, TX2, 4)) hK hL hE hW hS (zK_of g10) (by decide) rfl [.int x2]) rfl rfl hl.1 rfl (lv_room (Nat.le_of_ble_eq_true rfl)) dX6_kind_13 ⟨Nat.le_of_ble_eq_true rfl, Nat.le_of_ble_eq_true rfl⟩) (fun H locs hW hS => ?_)
  exact z_xiret hx hb hr hlocks hW hS (Option.some.inj h) rfl dX6_kind_16 (Nat.le_of_ble_eq_true rfl) (Nat.le_of_ble_eq_true rfl)
def f_X6_kind (N : Nat) (K len : Nat → Nat) (a0 : Nat) (a1 : Int32) (a2 : Int32) (M : ZM) : Option (Nat ⊕ Int32) := f_X6_kind_0 N K len a0 a1 a2 M
set_option maxRecDepth 100000 in
set_option maxHeartbeats 4000000 in
theorem m_X6_kind (l : Launch) (hlt : l.stackTraces = false) {D : va_G} {cy : Nat → ClassId} {ad : Nat → Nat} {L : List Nat} {K len : Nat → Nat} (hL : zSh ad L K) (N : Nat) {a0 : Nat} {a1 : Int32} {a2 : Int32} {M : ZM} {o : Nat ⊕ Int32} (h : f_X6_kind N K len a0 a1 a2 M = some o) (sz : Nat) : vx_Met l yX6_kind wsX6_kind ({ frames := 7, cells := 2, slots := 12, locals := 112 } : Room) (zPre D cy ad L K len sz [.ref (ad a0), .int a1, .int a2] M) (zY D cy ad L K len zvI o M sz) (zX D cy ad L K len o M sz) 2 12 (zA ad L sz) :=
  z_xentry hlt (Qf := fun sz => zY D cy ad L K len zvI o M sz) (Xf := fun sz => zX D cy ad L K len o M sz) (av := [.ref (ad a0), .int a1, .int a2]) (by decide) rfl rfl hL (Nat.le_of_ble_eq_true rfl) (fun p e s m args below meth c C0 H locs ls hW hS hl => t_X6_kind_0 C0 N h hW hS (lv_sub hl [0, 1, 2] rfl))
def f_X6_setWeight_16 (N : Nat) (K len : Nat → Nat) (M : ZM) : Option ((Nat ⊕ Int32) × ZM) :=
some (Sum.inl 2, M)
set_option maxRecDepth 100000 in
set_option maxHeartbeats 4000000 in
theorem t_X6_setWeight_16 {p : Program} {l : Launch} {e : Env} {s : State} {m : MethodId} {args : Array Value} {below : List Frame} {meth : Method} {c : Code} {D : va_G} {cy : Nat → ClassId} {ad : Nat → Nat} {L : List Nat} {K len : Nat → Nat} (C0 : zCxX p l s m c meth args cX6_setWeight 4 wsX6_setWeight RX6 (some .int) D cy ad L K) (N : Nat) {M : ZM} {o : Nat ⊕ Int32} {Mr : ZM} (h : f_X6_setWeight_16 N K len M = some (o, Mr)) {H : Heap} {locs : List Loc} {ls : Array Slot} (hW : zWd D cy ad L K len M H) (hS : va_S (zA ad L s.heap.size) s.heap H locs) (hl : lv_has ls 4 []) : W p l e (headSpec wsX6_setWeight ({ frames := 7, cells := 2, slots := 12, locals := 110 } : Room)).room s m args below meth c H locs 1 6 (vx_MQ below (zY D cy ad L K len zvI o Mr s.heap.size) (zX D cy ad L K len o Mr s.heap.size) args s 2 12 (zA ad L s.heap.size)) (F0 m 16 ls []) := by
  obtain ⟨⟨hx, hb, hr, hml, hown, hts, hlocks, hK, hL, hE⟩, hlt, hex⟩ := id C0
  unfold f_X6_setWeight_16 at h
  have hgw : ∀ w ∈ (vx_atS RX6 70 (zexn 2) znames).filter goodWord, w ∈ wsX6_setWeight := by decide +kernel
  exact z_throw (own := RX6) (k := 2) (ik := 66) (is := 92) (ic := 70) (text := "the weight is out of range") (names := znames) hx hb hlt hown zfit2 znames_fit (hts (.classLink RX6 66 "java/lang/IllegalArgumentException") (by decide +kernel)) (hts (.initialized "java/lang/IllegalArgumentException") (by decide +kernel)) (hE.2.2.2.1 (92, "the weight is out of range") (by decide)) (vx_hat (B := znw) (fun w hw => hts w (hgw w hw)) (by decide +kernel) (znw_use hE.1)) (by decide +kernel) hE hW hS (hl.1.trans hml.symm) dX6_setWeight_16 dX6_setWeight_19 dX6_setWeight_20 dX6_setWeight_22 dX6_setWeight_25 hex (congrArg Prod.fst (Option.some.inj h)).symm (congrArg Prod.snd (Option.some.inj h)) (Nat.le_of_ble_eq_true rfl) (Nat.le_of_ble_eq_true rfl) (Nat.le_of_ble_eq_true rfl) (Nat.le_of_ble_eq_true rfl) hlocks (Nat.le_of_ble_eq_true rfl) (Nat.le_of_ble_eq_true rfl)
def f_X6_setWeight_0 (N : Nat) (K len : Nat → Nat) (x0 : Nat) (x1 : Int32) (x2 : Int32) (M : ZM) : Option ((Nat ⊕ Int32) × ZM) :=
(f_X6_checkFeature N x1).bind fun q1 => (
zx q1 (fun k => some (Sum.inl k, M)) fun r3 => (
(if x2 < (-100 : Int32) then
f_X6_setWeight_16 N K len  M
else
(if x2 ≤ (100 : Int32) then
zg (K x0 == 7) (
(zR M x0 2).bind fun b7 => (
(f_X5_get N K len b7 x1 M).bind fun q9 => (
zg (K b7 == 6) (
(f_X5_keep N K len b7 M).bind fun M14 => (
(zR M14 x0 2).bind fun b15 => (
(f_X5_put N K len b15 x1 x2 M14).bind fun M19 => (
zg (K b15 == 6) (
some (Sum.inr q9, M19)))))))))
else
f_X6_setWeight_16 N K len  M))))
set_option maxRecDepth 100000 in
set_option maxHeartbeats 4000000 in
theorem t_X6_setWeight_0 {p : Program} {l : Launch} {e : Env} {s : State} {m : MethodId} {args : Array Value} {below : List Frame} {meth : Method} {c : Code} {D : va_G} {cy : Nat → ClassId} {ad : Nat → Nat} {L : List Nat} {K len : Nat → Nat} (C0 : zCxX p l s m c meth args cX6_setWeight 4 wsX6_setWeight RX6 (some .int) D cy ad L K) (N : Nat) {x0 : Nat} {x1 : Int32} {x2 : Int32} {M : ZM} {o : Nat ⊕ Int32} {Mr : ZM} (h : f_X6_setWeight_0 N K len x0 x1 x2 M = some (o, Mr)) {H : Heap} {locs : List Loc} {ls : Array Slot} (hW : zWd D cy ad L K len M H) (hS : va_S (zA ad L s.heap.size) s.heap H locs) (hl : lv_has ls 4 [(0, .ref (ad x0)), (1, .int x1), (2, .int x2)]) : W p l e (headSpec wsX6_setWeight ({ frames := 7, cells := 2, slots := 12, locals := 110 } : Room)).room s m args below meth c H locs 0 0 (vx_MQ below (zY D cy ad L K len zvI o Mr s.heap.size) (zX D cy ad L K len o Mr s.heap.size) args s 2 12 (zA ad L s.heap.size)) (F0 m 0 ls []) := by
  obtain ⟨⟨hx, hb, hr, hml, hown, hts, hlocks, hK, hL, hE⟩, hlt, hex⟩ := id C0
  have hinX6 : ∀ w ∈ wsX60, w ∈ wsX6_setWeight := by decide +kernel
  unfold f_X6_setWeight_0 at h
  refine lv_iload_n hx hb dX6_setWeight_0 rfl (lv_at hl 1 rfl) ?_
  obtain ⟨q1, e2, h⟩ := zb_some h
  refine z_xcallv hS (vx_runS (As := [.int x1]) (rest := []) ⟨hx, hb, hml, hown, hts⟩ (m_X6_checkFeature l hlt (M := M) hL N e2 H.size) (va_cwS 1 hts gX6_setWeight_X6_checkFeature rfl rfl rfl (by decide +kernel) ⟨Nat.le_of_ble_eq_true rfl, Nat.le_of_ble_eq_true rfl⟩) (z_preS hK hE hW hS [.int x1]) rfl rfl hl.1 rfl (lv_room (Nat.le_of_ble_eq_true rfl)) dX6_setWeight_1 ⟨Nat.le_of_ble_eq_true rfl, Nat.le_of_ble_eq_true rfl⟩) (fun k hk H locs q9 ce hW hS hce hcv hcl => by subst hk; have h := zx_l h; exact z_xout hex hlocks (congrArg Prod.fst (Option.some.inj h)).symm (congrArg Prod.snd (Option.some.inj h)) hW hS hce hcv hcl (Nat.le_of_ble_eq_true rfl) (Nat.le_of_ble_eq_true rfl)) (fun r3 hk H locs hW hS => ?_)
  subst hk
  have h := zx_r h
  refine lv_iload_n hx hb dX6_setWeight_4 rfl (lv_at hl 2 rfl) ?_
  refine lv_bipush (v := -100) hx hb dX6_setWeight_5 (by decide) ?_
  refine lv_icmp_lt (tgt := 16) hx hb dX6_setWeight_7 (by decide) (fun c4 => ?_) (fun c4 => ?_)
  · have h := zip c4 h
    exact t_X6_setWeight_16 C0 N  h hW hS (lv_sub hl [] rfl)
  · have h := zin c4 h
    refine lv_iload_n hx hb dX6_setWeight_10 rfl (lv_at hl 2 rfl) ?_
    refine lv_bipush (v := 100) hx hb dX6_setWeight_11 (by decide) ?_
    refine lv_icmp_le (tgt := 26) hx hb dX6_setWeight_13 (by decide) (fun c5 => ?_) (fun c5 => ?_)
    · have h := zip c5 h
      refine lv_aload_n hx hb dX6_setWeight_26 rfl (lv_at hl 0 rfl) ?_
      obtain ⟨g6, h⟩ := zg_some h
      obtain ⟨b7, e8, h⟩ := zb_some h
      refine z_get (own := RX6) (C := RX6) (T := TX6) (N := 7) (ci := 6) hx hb hts hinX6 hown hK hL hW 2 (zK_of g6) rfl (by decide) (by decide) rfl (hts (.fieldLink RX6 22 "ArcLight" "weights" "LArcLight$Weights;") (by decide +kernel)) (v := .ref (ad b7)) (zhvR e8 rfl) dX6_setWeight_27 ?_
      refine lv_iload_n hx hb dX6_setWeight_30 rfl (lv_at hl 1 rfl) ?_
      obtain ⟨q9, e10, h⟩ := zb_some h
      obtain ⟨g11, h⟩ := zg_some h
      refine z_calli hS (va_runV (As := [.int x1]) (rest := []) ⟨hx, hb, hml, hown, hts⟩ (m_X5_get l hL N e10 H.size) (cwV 1 hts gX6_setWeight_X5_get rfl rfl rfl (by decide +kernel) ⟨Nat.le_of_ble_eq_true rfl, Nat.le_of_ble_eq_true rfl⟩) (z_preV (q := (RX5, TX5, 8)) hK hL hE hW hS (zK_of g11) (by decide) rfl [.int x1]) rfl rfl hl.1 rfl (lv_room (Nat.le_of_ble_eq_true rfl)) dX6_setWeight_31 ⟨Nat.le_of_ble_eq_true rfl, Nat.le_of_ble_eq_true rfl⟩) (fun H locs hW hS => ?_)
      refine lv_istore_n (lv' := [(3, .int q9), (0, .ref (ad x0)), (1, .int x1), (2, .int x2)]) hx hb dX6_setWeight_34 rfl hl (by decide) rfl (fun ls hl => ?_)
      refine lv_aload_n hx hb dX6_setWeight_35 rfl (lv_at hl 1 rfl) ?_
      refine z_get (own := RX6) (C := RX6) (T := TX6) (N := 7) (ci := 6) hx hb hts hinX6 hown hK hL hW 2 (zK_of g6) rfl (by decide) (by decide) rfl (hts (.fieldLink RX6 22 "ArcLight" "weights" "LArcLight$Weights;") (by decide +kernel)) (v := .ref (ad b7)) (zhvR e8 rfl) dX6_setWeight_36 ?_
      obtain ⟨M14, e13, h⟩ := zb_some h
      refine z_callv hS (va_runV (As := []) (rest := []) ⟨hx, hb, hml, hown, hts⟩ (m_X5_keep l hL N e13 H.size) (cwV 0 hts gX6_setWeight_X5_keep rfl rfl rfl (by decide +kernel) ⟨Nat.le_of_ble_eq_true rfl, Nat.le_of_ble_eq_true rfl⟩) (z_preV (q := (RX5, TX5, 8)) hK hL hE hW hS (zK_of g11) (by decide) rfl []) rfl rfl hl.1 rfl (lv_room (Nat.le_of_ble_eq_true rfl)) dX6_setWeight_39 ⟨Nat.le_of_ble_eq_true rfl, Nat.le_of_ble_eq_true rfl⟩) (fun H locs hW hS => ?_)
      refine lv_aload_n hx hb dX6_setWeight_42 rfl (lv_at hl 1 rfl) ?_
      obtain ⟨b15, e16, h⟩ := zb_some h
      refine z_get (own := RX6) (C := RX6) (T := TX6) (N := 7) (ci := 6) hx hb hts hinX6 hown hK hL hW 2 (zK_of g6) rfl (by decide) (by decide) rfl (hts (.fieldLink RX6 22 "ArcLight" "weights" "LArcLight$Weights;") (by decide +kernel)) (v := .ref (ad b15)) (zhvR e16 rfl) dX6_setWeight_43 ?_
      refine lv_iload_n hx hb dX6_setWeight_46 rfl (lv_at hl 2 rfl) ?_
      refine lv_iload_n hx hb dX6_setWeight_47 rfl (lv_at hl 3 rfl) ?_
      obtain ⟨M19, e18, h⟩ := zb_some h
      obtain ⟨g20, h⟩ := zg_some h
      refine z_callv hS (va_runV (As := [.int x1, .int x2]) (rest := []) ⟨hx, hb, hml, hown, hts⟩ (m_X5_put l hL N e18 H.size) (cwV 2 hts gX6_setWeight_X5_put rfl rfl rfl (by decide +kernel) ⟨Nat.le_of_ble_eq_true rfl, Nat.le_of_ble_eq_true rfl⟩) (z_preV (q := (RX5, TX5, 8)) hK hL hE hW hS (zK_of g20) (by decide) rfl [.int x1, .int x2]) rfl rfl hl.1 rfl (lv_room (Nat.le_of_ble_eq_true rfl)) dX6_setWeight_48 ⟨Nat.le_of_ble_eq_true rfl, Nat.le_of_ble_eq_true rfl⟩) (fun H locs hW hS => ?_)
      refine lv_iload_n hx hb dX6_setWeight_51 rfl (lv_at hl 0 rfl) ?_
      exact z_xiret hx hb hr hlocks hW hS (congrArg Prod.fst (Option.some.inj h)) (congrArg Prod.snd (Option.some.inj h)) dX6_setWeight_52 (Nat.le_of_ble_eq_true rfl) (Nat.le_of_ble_eq_true rfl)
    · have h := zin c5 h
      exact t_X6_setWeight_16 C0 N  h hW hS (lv_sub hl [] rfl)
def f_X6_setWeight (N : Nat) (K len : Nat → Nat) (a0 : Nat) (a1 : Int32) (a2 : Int32) (M : ZM) : Option ((Nat ⊕ Int32) × ZM) := f_X6_setWeight_0 N K len a0 a1 a2 M
set_option maxRecDepth 100000 in
set_option maxHeartbeats 4000000 in
theorem m_X6_setWeight (l : Launch) (hlt : l.stackTraces = false) {D : va_G} {cy : Nat → ClassId} {ad : Nat → Nat} {L : List Nat} {K len : Nat → Nat} (hL : zSh ad L K) (N : Nat) {a0 : Nat} {a1 : Int32} {a2 : Int32} {M : ZM} {o : Nat ⊕ Int32} {Mr : ZM} (h : f_X6_setWeight N K len a0 a1 a2 M = some (o, Mr)) (sz : Nat) : vx_Met l yX6_setWeight wsX6_setWeight ({ frames := 7, cells := 2, slots := 12, locals := 110 } : Room) (zPre D cy ad L K len sz [.ref (ad a0), .int a1, .int a2] M) (zY D cy ad L K len zvI o Mr sz) (zX D cy ad L K len o Mr sz) 2 12 (zA ad L sz) :=
  z_xentry hlt (Qf := fun sz => zY D cy ad L K len zvI o Mr sz) (Xf := fun sz => zX D cy ad L K len o Mr sz) (av := [.ref (ad a0), .int a1, .int a2]) (by decide) rfl rfl hL (Nat.le_of_ble_eq_true rfl) (fun p e s m args below meth c C0 H locs ls hW hS hl => t_X6_setWeight_0 C0 N h hW hS (lv_sub hl [0, 1, 2] rfl))
def f_X6_weight_0 (N : Nat) (K len : Nat → Nat) (x0 : Nat) (x1 : Int32) (M : ZM) : Option (Nat ⊕ Int32) :=
(f_X6_checkFeature N x1).bind fun q1 => (
zx q1 (fun k => some (Sum.inl k)) fun r3 => (
zg (K x0 == 7) (
(zR M x0 2).bind fun b5 => (
(f_X5_get N K len b5 x1 M).bind fun q7 => (
zg (K b5 == 6) (
some (Sum.inr q7)))))))
set_option maxRecDepth 100000 in
set_option maxHeartbeats 4000000 in
theorem t_X6_weight_0 {p : Program} {l : Launch} {e : Env} {s : State} {m : MethodId} {args : Array Value} {below : List Frame} {meth : Method} {c : Code} {D : va_G} {cy : Nat → ClassId} {ad : Nat → Nat} {L : List Nat} {K len : Nat → Nat} (C0 : zCxX p l s m c meth args cX6_weight 2 wsX6_weight RX6 (some .int) D cy ad L K) (N : Nat) {x0 : Nat} {x1 : Int32} {M : ZM} {o : Nat ⊕ Int32} (h : f_X6_weight_0 N K len x0 x1 M = some o) {H : Heap} {locs : List Loc} {ls : Array Slot} (hW : zWd D cy ad L K len M H) (hS : va_S (zA ad L s.heap.size) s.heap H locs) (hl : lv_has ls 2 [(0, .ref (ad x0)), (1, .int x1)]) : W p l e (headSpec wsX6_weight ({ frames := 7, cells := 1, slots := 6, locals := 110 } : Room)).room s m args below meth c H locs 0 0 (vx_MQ below (zY D cy ad L K len zvI o M s.heap.size) (zX D cy ad L K len o M s.heap.size) args s 1 6 (zA ad L s.heap.size)) (F0 m 0 ls []) := by
  obtain ⟨⟨hx, hb, hr, hml, hown, hts, hlocks, hK, hL, hE⟩, hlt, hex⟩ := id C0
  have hinX6 : ∀ w ∈ wsX60, w ∈ wsX6_weight := by decide +kernel
  unfold f_X6_weight_0 at h
  refine lv_iload_n hx hb dX6_weight_0 rfl (lv_at hl 1 rfl) ?_
  obtain ⟨q1, e2, h⟩ := zb_some h
  refine z_xcallv hS (vx_runS (As := [.int x1]) (rest := []) ⟨hx, hb, hml, hown, hts⟩ (m_X6_checkFeature l hlt (M := M) hL N e2 H.size) (va_cwS 1 hts gX6_weight_X6_checkFeature rfl rfl rfl (by decide +kernel) ⟨Nat.le_of_ble_eq_true rfl, Nat.le_of_ble_eq_true rfl⟩) (z_preS hK hE hW hS [.int x1]) rfl rfl hl.1 rfl (lv_room (Nat.le_of_ble_eq_true rfl)) dX6_weight_1 ⟨Nat.le_of_ble_eq_true rfl, Nat.le_of_ble_eq_true rfl⟩) (fun k hk H locs q9 ce hW hS hce hcv hcl => by subst hk; have h := zx_l h; exact z_xout hex hlocks (Option.some.inj h).symm rfl hW hS hce hcv hcl (Nat.le_of_ble_eq_true rfl) (Nat.le_of_ble_eq_true rfl)) (fun r3 hk H locs hW hS => ?_)
  subst hk
  have h := zx_r h
  refine lv_aload_n hx hb dX6_weight_4 rfl (lv_at hl 0 rfl) ?_
  obtain ⟨g4, h⟩ := zg_some h
  obtain ⟨b5, e6, h⟩ := zb_some h
  refine z_get (own := RX6) (C := RX6) (T := TX6) (N := 7) (ci := 6) hx hb hts hinX6 hown hK hL hW 2 (zK_of g4) rfl (by decide) (by decide) rfl (hts (.fieldLink RX6 22 "ArcLight" "weights" "LArcLight$Weights;") (by decide +kernel)) (v := .ref (ad b5)) (zhvR e6 rfl) dX6_weight_5 ?_
  refine lv_iload_n hx hb dX6_weight_8 rfl (lv_at hl 1 rfl) ?_
  obtain ⟨q7, e8, h⟩ := zb_some h
  obtain ⟨g9, h⟩ := zg_some h
  refine z_calli hS (va_runV (As := [.int x1]) (rest := []) ⟨hx, hb, hml, hown, hts⟩ (m_X5_get l hL N e8 H.size) (cwV 1 hts gX6_weight_X5_get rfl rfl rfl (by decide +kernel) ⟨Nat.le_of_ble_eq_true rfl, Nat.le_of_ble_eq_true rfl⟩) (z_preV (q := (RX5, TX5, 8)) hK hL hE hW hS (zK_of g9) (by decide) rfl [.int x1]) rfl rfl hl.1 rfl (lv_room (Nat.le_of_ble_eq_true rfl)) dX6_weight_9 ⟨Nat.le_of_ble_eq_true rfl, Nat.le_of_ble_eq_true rfl⟩) (fun H locs hW hS => ?_)
  exact z_xiret hx hb hr hlocks hW hS (Option.some.inj h) rfl dX6_weight_12 (Nat.le_of_ble_eq_true rfl) (Nat.le_of_ble_eq_true rfl)
def f_X6_weight (N : Nat) (K len : Nat → Nat) (a0 : Nat) (a1 : Int32) (M : ZM) : Option (Nat ⊕ Int32) := f_X6_weight_0 N K len a0 a1 M
set_option maxRecDepth 100000 in
set_option maxHeartbeats 4000000 in
theorem m_X6_weight (l : Launch) (hlt : l.stackTraces = false) {D : va_G} {cy : Nat → ClassId} {ad : Nat → Nat} {L : List Nat} {K len : Nat → Nat} (hL : zSh ad L K) (N : Nat) {a0 : Nat} {a1 : Int32} {M : ZM} {o : Nat ⊕ Int32} (h : f_X6_weight N K len a0 a1 M = some o) (sz : Nat) : vx_Met l yX6_weight wsX6_weight ({ frames := 7, cells := 1, slots := 6, locals := 110 } : Room) (zPre D cy ad L K len sz [.ref (ad a0), .int a1] M) (zY D cy ad L K len zvI o M sz) (zX D cy ad L K len o M sz) 1 6 (zA ad L sz) :=
  z_xentry hlt (Qf := fun sz => zY D cy ad L K len zvI o M sz) (Xf := fun sz => zX D cy ad L K len o M sz) (av := [.ref (ad a0), .int a1]) (by decide) rfl rfl hL (Nat.le_of_ble_eq_true rfl) (fun p e s m args below meth c C0 H locs ls hW hS hl => t_X6_weight_0 C0 N h hW hS (lv_sub hl [0, 1] rfl))
def f_X6_feature_0 (N : Nat) (K len : Nat → Nat) (x0 : Nat) (x1 : Int32) (x2 : Int32) (x3 : Int32) (x4 : Int32) (M : ZM) : Option (Nat ⊕ Int32) :=
zg (K x0 == 7) (
(f_X6_find N K len x0 x1 M).bind fun q1 => (
zx q1 (fun k => some (Sum.inl k)) fun r4 => (
(f_X6_checkArc N K len r4 x2 x3 M).bind fun q5 => (
zx q5 (fun k => some (Sum.inl k)) fun r7 => (
(if x4 = 0 then
(f_X2_byKinds N K len r4 x2 x3 M).bind fun q9 => (
zg (K r4 == 3) (
some (Sum.inr q9)))
else
(f_X6_byDistance N x2 x3).bind fun q12 => (
some (Sum.inr q12))))))))
set_option maxRecDepth 100000 in
set_option maxHeartbeats 4000000 in
theorem t_X6_feature_0 {p : Program} {l : Launch} {e : Env} {s : State} {m : MethodId} {args : Array Value} {below : List Frame} {meth : Method} {c : Code} {D : va_G} {cy : Nat → ClassId} {ad : Nat → Nat} {L : List Nat} {K len : Nat → Nat} (C0 : zCxX p l s m c meth args cX6_feature 6 wsX6_feature RX6 (some .int) D cy ad L K) (N : Nat) {x0 : Nat} {x1 : Int32} {x2 : Int32} {x3 : Int32} {x4 : Int32} {M : ZM} {o : Nat ⊕ Int32} (h : f_X6_feature_0 N K len x0 x1 x2 x3 x4 M = some o) {H : Heap} {locs : List Loc} {ls : Array Slot} (hW : zWd D cy ad L K len M H) (hS : va_S (zA ad L s.heap.size) s.heap H locs) (hl : lv_has ls 6 [(0, .ref (ad x0)), (1, .int x1), (2, .int x2), (3, .int x3), (4, .int x4)]) : W p l e (headSpec wsX6_feature ({ frames := 8, cells := 3, slots := 18, locals := 133 } : Room)).room s m args below meth c H locs 0 0 (vx_MQ below (zY D cy ad L K len zvI o M s.heap.size) (zX D cy ad L K len o M s.heap.size) args s 3 18 (zA ad L s.heap.size)) (F0 m 0 ls []) := by
  obtain ⟨⟨hx, hb, hr, hml, hown, hts, hlocks, hK, hL, hE⟩, hlt, hex⟩ := id C0
  unfold f_X6_feature_0 at h
  refine lv_aload_n hx hb dX6_feature_0 rfl (lv_at hl 0 rfl) ?_
  refine lv_iload_n hx hb dX6_feature_1 rfl (lv_at hl 1 rfl) ?_
  obtain ⟨g3, h⟩ := zg_some h
  obtain ⟨q1, e2, h⟩ := zb_some h
  refine z_xcallr hS (vx_runV (As := [.int x1]) (rest := []) ⟨hx, hb, hml, hown, hts⟩ (m_X6_find l hlt hL N e2 H.size) (cwV 1 hts gX6_feature_X6_find rfl rfl rfl (by decide +kernel) ⟨Nat.le_of_ble_eq_true rfl, Nat.le_of_ble_eq_true rfl⟩) (z_preV (q := (RX6, TX6, 7)) hK hL hE hW hS (zK_of g3) (by decide) rfl [.int x1]) rfl rfl hl.1 rfl (lv_room (Nat.le_of_ble_eq_true rfl)) dX6_feature_2 ⟨Nat.le_of_ble_eq_true rfl, Nat.le_of_ble_eq_true rfl⟩) (fun k hk H locs q9 ce hW hS hce hcv hcl => by subst hk; have h := zx_l h; exact z_xout hex hlocks (Option.some.inj h).symm rfl hW hS hce hcv hcl (Nat.le_of_ble_eq_true rfl) (Nat.le_of_ble_eq_true rfl)) (fun r4 hk H locs hW hS => ?_)
  subst hk
  have h := zx_r h
  refine lv_astore (lv' := [(5, .ref (ad r4)), (0, .ref (ad x0)), (1, .int x1), (2, .int x2), (3, .int x3), (4, .int x4)]) hx hb dX6_feature_5 hl (by decide) rfl (fun ls hl => ?_)
  refine lv_aload hx hb dX6_feature_7 (lv_at hl 0 rfl) ?_
  refine lv_iload_n hx hb dX6_feature_9 rfl (lv_at hl 3 rfl) ?_
  refine lv_iload_n hx hb dX6_feature_10 rfl (lv_at hl 4 rfl) ?_
  obtain ⟨q5, e6, h⟩ := zb_some h
  refine z_xcallv hS (vx_runS (As := [.ref (ad r4), .int x2, .int x3]) (rest := []) ⟨hx, hb, hml, hown, hts⟩ (m_X6_checkArc l hlt hL N e6 H.size) (va_cwS 3 hts gX6_feature_X6_checkArc rfl rfl rfl (by decide +kernel) ⟨Nat.le_of_ble_eq_true rfl, Nat.le_of_ble_eq_true rfl⟩) (z_preS hK hE hW hS [.ref (ad r4), .int x2, .int x3]) rfl rfl hl.1 rfl (lv_room (Nat.le_of_ble_eq_true rfl)) dX6_feature_11 ⟨Nat.le_of_ble_eq_true rfl, Nat.le_of_ble_eq_true rfl⟩) (fun k hk H locs q9 ce hW hS hce hcv hcl => by subst hk; have h := zx_l h; exact z_xout hex hlocks (Option.some.inj h).symm rfl hW hS hce hcv hcl (Nat.le_of_ble_eq_true rfl) (Nat.le_of_ble_eq_true rfl)) (fun r7 hk H locs hW hS => ?_)
  subst hk
  have h := zx_r h
  refine lv_iload hx hb dX6_feature_14 (lv_at hl 5 rfl) ?_
  refine lv_if_eq (tgt := 27) hx hb dX6_feature_16 (by decide) (fun c8 => ?_) (fun c8 => ?_)
  · have h := zip c8 h
    refine lv_aload hx hb dX6_feature_27 (lv_at hl 0 rfl) ?_
    refine lv_iload_n hx hb dX6_feature_29 rfl (lv_at hl 3 rfl) ?_
    refine lv_iload_n hx hb dX6_feature_30 rfl (lv_at hl 4 rfl) ?_
    obtain ⟨q9, e10, h⟩ := zb_some h
    obtain ⟨g11, h⟩ := zg_some h
    refine z_calli hS (va_runV (As := [.int x2, .int x3]) (rest := []) ⟨hx, hb, hml, hown, hts⟩ (m_X2_byKinds l hL N e10 H.size) (cwV 2 hts gX6_feature_X2_byKinds rfl rfl rfl (by decide +kernel) ⟨Nat.le_of_ble_eq_true rfl, Nat.le_of_ble_eq_true rfl⟩) (z_preV (q := (RX2, TX2, 4)) hK hL hE hW hS (zK_of g11) (by decide) rfl [.int x2, .int x3]) rfl rfl hl.1 rfl (lv_room (Nat.le_of_ble_eq_true rfl)) dX6_feature_31 ⟨Nat.le_of_ble_eq_true rfl, Nat.le_of_ble_eq_true rfl⟩) (fun H locs hW hS => ?_)
    exact z_xiret hx hb hr hlocks hW hS (Option.some.inj h) rfl dX6_feature_34 (Nat.le_of_ble_eq_true rfl) (Nat.le_of_ble_eq_true rfl)
  · have h := zin c8 h
    refine lv_iload_n hx hb dX6_feature_19 rfl (lv_at hl 3 rfl) ?_
    refine lv_iload_n hx hb dX6_feature_20 rfl (lv_at hl 4 rfl) ?_
    obtain ⟨q12, e13, h⟩ := zb_some h
    refine z_calli hS (va_runS (As := [.int x2, .int x3]) (rest := []) ⟨hx, hb, hml, hown, hts⟩ (m_X6_byDistance l (M := M) hL N e13 H.size) (va_cwS 2 hts gX6_feature_X6_byDistance rfl rfl rfl (by decide +kernel) ⟨Nat.le_of_ble_eq_true rfl, Nat.le_of_ble_eq_true rfl⟩) (z_preS hK hE hW hS [.int x2, .int x3]) rfl rfl hl.1 rfl (lv_room (Nat.le_of_ble_eq_true rfl)) dX6_feature_21 ⟨Nat.le_of_ble_eq_true rfl, Nat.le_of_ble_eq_true rfl⟩) (fun H locs hW hS => ?_)
    refine lv_goto (tgt := 34) hx hb dX6_feature_24 (by decide) ?_
    exact z_xiret hx hb hr hlocks hW hS (Option.some.inj h) rfl dX6_feature_34 (Nat.le_of_ble_eq_true rfl) (Nat.le_of_ble_eq_true rfl)
def f_X6_feature (N : Nat) (K len : Nat → Nat) (a0 : Nat) (a1 : Int32) (a2 : Int32) (a3 : Int32) (a4 : Int32) (M : ZM) : Option (Nat ⊕ Int32) := f_X6_feature_0 N K len a0 a1 a2 a3 a4 M
set_option maxRecDepth 100000 in
set_option maxHeartbeats 4000000 in
theorem m_X6_feature (l : Launch) (hlt : l.stackTraces = false) {D : va_G} {cy : Nat → ClassId} {ad : Nat → Nat} {L : List Nat} {K len : Nat → Nat} (hL : zSh ad L K) (N : Nat) {a0 : Nat} {a1 : Int32} {a2 : Int32} {a3 : Int32} {a4 : Int32} {M : ZM} {o : Nat ⊕ Int32} (h : f_X6_feature N K len a0 a1 a2 a3 a4 M = some o) (sz : Nat) : vx_Met l yX6_feature wsX6_feature ({ frames := 8, cells := 3, slots := 18, locals := 133 } : Room) (zPre D cy ad L K len sz [.ref (ad a0), .int a1, .int a2, .int a3, .int a4] M) (zY D cy ad L K len zvI o M sz) (zX D cy ad L K len o M sz) 3 18 (zA ad L sz) :=
  z_xentry hlt (Qf := fun sz => zY D cy ad L K len zvI o M sz) (Xf := fun sz => zX D cy ad L K len o M sz) (av := [.ref (ad a0), .int a1, .int a2, .int a3, .int a4]) (by decide) rfl rfl hL (Nat.le_of_ble_eq_true rfl) (fun p e s m args below meth c C0 H locs ls hW hS hl => t_X6_feature_0 C0 N h hW hS (lv_sub hl [0, 1, 2, 3, 4] rfl))
def f_X6_score_0 (N : Nat) (K len : Nat → Nat) (x0 : Nat) (x1 : Int32) (x2 : Int32) (x3 : Int32) (M : ZM) : Option (Nat ⊕ Int32) :=
zg (K x0 == 7) (
(f_X6_find N K len x0 x1 M).bind fun q1 => (
zx q1 (fun k => some (Sum.inl k)) fun r4 => (
(f_X6_checkArc N K len r4 x2 x3 M).bind fun q5 => (
zx q5 (fun k => some (Sum.inl k)) fun r7 => (
(zR M x0 2).bind fun b8 => (
(f_X5_ofArc N K len b8 r4 x2 x3 M).bind fun q10 => (
zg (K b8 == 6) (
some (Sum.inr q10)))))))))
set_option maxRecDepth 100000 in
set_option maxHeartbeats 4000000 in
theorem t_X6_score_0 {p : Program} {l : Launch} {e : Env} {s : State} {m : MethodId} {args : Array Value} {below : List Frame} {meth : Method} {c : Code} {D : va_G} {cy : Nat → ClassId} {ad : Nat → Nat} {L : List Nat} {K len : Nat → Nat} (C0 : zCxX p l s m c meth args cX6_score 5 wsX6_score RX6 (some .int) D cy ad L K) (N : Nat) {x0 : Nat} {x1 : Int32} {x2 : Int32} {x3 : Int32} {M : ZM} {o : Nat ⊕ Int32} (h : f_X6_score_0 N K len x0 x1 x2 x3 M = some o) {H : Heap} {locs : List Loc} {ls : Array Slot} (hW : zWd D cy ad L K len M H) (hS : va_S (zA ad L s.heap.size) s.heap H locs) (hl : lv_has ls 5 [(0, .ref (ad x0)), (1, .int x1), (2, .int x2), (3, .int x3)]) : W p l e (headSpec wsX6_score ({ frames := 8, cells := 3, slots := 18, locals := 133 } : Room)).room s m args below meth c H locs 0 0 (vx_MQ below (zY D cy ad L K len zvI o M s.heap.size) (zX D cy ad L K len o M s.heap.size) args s 3 18 (zA ad L s.heap.size)) (F0 m 0 ls []) := by
  obtain ⟨⟨hx, hb, hr, hml, hown, hts, hlocks, hK, hL, hE⟩, hlt, hex⟩ := id C0
  have hinX6 : ∀ w ∈ wsX60, w ∈ wsX6_score := by decide +kernel
  unfold f_X6_score_0 at h
  refine lv_aload_n hx hb dX6_score_0 rfl (lv_at hl 0 rfl) ?_
  refine lv_iload_n hx hb dX6_score_1 rfl (lv_at hl 1 rfl) ?_
  obtain ⟨g3, h⟩ := zg_some h
  obtain ⟨q1, e2, h⟩ := zb_some h
  refine z_xcallr hS (vx_runV (As := [.int x1]) (rest := []) ⟨hx, hb, hml, hown, hts⟩ (m_X6_find l hlt hL N e2 H.size) (cwV 1 hts gX6_score_X6_find rfl rfl rfl (by decide +kernel) ⟨Nat.le_of_ble_eq_true rfl, Nat.le_of_ble_eq_true rfl⟩) (z_preV (q := (RX6, TX6, 7)) hK hL hE hW hS (zK_of g3) (by decide) rfl [.int x1]) rfl rfl hl.1 rfl (lv_room (Nat.le_of_ble_eq_true rfl)) dX6_score_2 ⟨Nat.le_of_ble_eq_true rfl, Nat.le_of_ble_eq_true rfl⟩) (fun k hk H locs q9 ce hW hS hce hcv hcl => by subst hk; have h := zx_l h; exact z_xout hex hlocks (Option.some.inj h).symm rfl hW hS hce hcv hcl (Nat.le_of_ble_eq_true rfl) (Nat.le_of_ble_eq_true rfl)) (fun r4 hk H locs hW hS => ?_)
  subst hk
  have h := zx_r h
  refine lv_astore (lv' := [(4, .ref (ad r4)), (0, .ref (ad x0)), (1, .int x1), (2, .int x2), (3, .int x3)]) hx hb dX6_score_5 hl (by decide) rfl (fun ls hl => ?_)
  refine lv_aload hx hb dX6_score_7 (lv_at hl 0 rfl) ?_
  refine lv_iload_n hx hb dX6_score_9 rfl (lv_at hl 3 rfl) ?_
  refine lv_iload_n hx hb dX6_score_10 rfl (lv_at hl 4 rfl) ?_
  obtain ⟨q5, e6, h⟩ := zb_some h
  refine z_xcallv hS (vx_runS (As := [.ref (ad r4), .int x2, .int x3]) (rest := []) ⟨hx, hb, hml, hown, hts⟩ (m_X6_checkArc l hlt hL N e6 H.size) (va_cwS 3 hts gX6_score_X6_checkArc rfl rfl rfl (by decide +kernel) ⟨Nat.le_of_ble_eq_true rfl, Nat.le_of_ble_eq_true rfl⟩) (z_preS hK hE hW hS [.ref (ad r4), .int x2, .int x3]) rfl rfl hl.1 rfl (lv_room (Nat.le_of_ble_eq_true rfl)) dX6_score_11 ⟨Nat.le_of_ble_eq_true rfl, Nat.le_of_ble_eq_true rfl⟩) (fun k hk H locs q9 ce hW hS hce hcv hcl => by subst hk; have h := zx_l h; exact z_xout hex hlocks (Option.some.inj h).symm rfl hW hS hce hcv hcl (Nat.le_of_ble_eq_true rfl) (Nat.le_of_ble_eq_true rfl)) (fun r7 hk H locs hW hS => ?_)
  subst hk
  have h := zx_r h
  refine lv_aload_n hx hb dX6_score_14 rfl (lv_at hl 1 rfl) ?_
  obtain ⟨b8, e9, h⟩ := zb_some h
  refine z_get (own := RX6) (C := RX6) (T := TX6) (N := 7) (ci := 6) hx hb hts hinX6 hown hK hL hW 2 (zK_of g3) rfl (by decide) (by decide) rfl (hts (.fieldLink RX6 22 "ArcLight" "weights" "LArcLight$Weights;") (by decide +kernel)) (v := .ref (ad b8)) (zhvR e9 rfl) dX6_score_15 ?_
  refine lv_aload hx hb dX6_score_18 (lv_at hl 0 rfl) ?_
  refine lv_iload_n hx hb dX6_score_20 rfl (lv_at hl 3 rfl) ?_
  refine lv_iload_n hx hb dX6_score_21 rfl (lv_at hl 4 rfl) ?_
  obtain ⟨q10, e11, h⟩ := zb_some h
  obtain ⟨g12, h⟩ := zg_some h
  refine z_calli hS (va_runV (As := [.ref (ad r4), .int x2, .int x3]) (rest := []) ⟨hx, hb, hml, hown, hts⟩ (m_X5_ofArc l hL N e11 H.size) (cwV 3 hts gX6_score_X5_ofArc rfl rfl rfl (by decide +kernel) ⟨Nat.le_of_ble_eq_true rfl, Nat.le_of_ble_eq_true rfl⟩) (z_preV (q := (RX5, TX5, 8)) hK hL hE hW hS (zK_of g12) (by decide) rfl [.ref (ad r4), .int x2, .int x3]) rfl rfl hl.1 rfl (lv_room (Nat.le_of_ble_eq_true rfl)) dX6_score_22 ⟨Nat.le_of_ble_eq_true rfl, Nat.le_of_ble_eq_true rfl⟩) (fun H locs hW hS => ?_)
  exact z_xiret hx hb hr hlocks hW hS (Option.some.inj h) rfl dX6_score_25 (Nat.le_of_ble_eq_true rfl) (Nat.le_of_ble_eq_true rfl)
def f_X6_score (N : Nat) (K len : Nat → Nat) (a0 : Nat) (a1 : Int32) (a2 : Int32) (a3 : Int32) (M : ZM) : Option (Nat ⊕ Int32) := f_X6_score_0 N K len a0 a1 a2 a3 M
set_option maxRecDepth 100000 in
set_option maxHeartbeats 4000000 in
theorem m_X6_score (l : Launch) (hlt : l.stackTraces = false) {D : va_G} {cy : Nat → ClassId} {ad : Nat → Nat} {L : List Nat} {K len : Nat → Nat} (hL : zSh ad L K) (N : Nat) {a0 : Nat} {a1 : Int32} {a2 : Int32} {a3 : Int32} {M : ZM} {o : Nat ⊕ Int32} (h : f_X6_score N K len a0 a1 a2 a3 M = some o) (sz : Nat) : vx_Met l yX6_score wsX6_score ({ frames := 8, cells := 3, slots := 18, locals := 133 } : Room) (zPre D cy ad L K len sz [.ref (ad a0), .int a1, .int a2, .int a3] M) (zY D cy ad L K len zvI o M sz) (zX D cy ad L K len o M sz) 3 18 (zA ad L sz) :=
  z_xentry hlt (Qf := fun sz => zY D cy ad L K len zvI o M sz) (Xf := fun sz => zX D cy ad L K len o M sz) (av := [.ref (ad a0), .int a1, .int a2, .int a3]) (by decide) rfl rfl hL (Nat.le_of_ble_eq_true rfl) (fun p e s m args below meth c C0 H locs ls hW hS hl => t_X6_score_0 C0 N h hW hS (lv_sub hl [0, 1, 2, 3] rfl))
def f_X6_mark_77 (N : Nat) (K len : Nat → Nat) (x2 : Int32) (x3 : Int32) (x4 : Int32) (x5 : Nat) (M : ZM) : Option ((Nat ⊕ Int32) × ZM) :=
zbp (f_X2_changeMark N K len x5 x2 x3 x4 M) fun q1 M3 => (
zg (K x5 == 3) (
some (Sum.inr q1, M3)))
set_option maxRecDepth 100000 in
set_option maxHeartbeats 4000000 in
theorem t_X6_mark_77 {p : Program} {l : Launch} {e : Env} {s : State} {m : MethodId} {args : Array Value} {below : List Frame} {meth : Method} {c : Code} {D : va_G} {cy : Nat → ClassId} {ad : Nat → Nat} {L : List Nat} {K len : Nat → Nat} (C0 : zCxX p l s m c meth args cX6_mark 7 wsX6_mark RX6 (some .int) D cy ad L K) (N : Nat) {x2 : Int32} {x3 : Int32} {x4 : Int32} {x5 : Nat} {M : ZM} {o : Nat ⊕ Int32} {Mr : ZM} (h : f_X6_mark_77 N K len x2 x3 x4 x5 M = some (o, Mr)) {H : Heap} {locs : List Loc} {ls : Array Slot} (hW : zWd D cy ad L K len M H) (hS : va_S (zA ad L s.heap.size) s.heap H locs) (hl : lv_has ls 7 [(2, .int x2), (3, .int x3), (4, .int x4), (5, .ref (ad x5))]) : W p l e (headSpec wsX6_mark ({ frames := 8, cells := 4, slots := 24, locals := 133 } : Room)).room s m args below meth c H locs 3 18 (vx_MQ below (zY D cy ad L K len zvI o Mr s.heap.size) (zX D cy ad L K len o Mr s.heap.size) args s 4 24 (zA ad L s.heap.size)) (F0 m 77 ls []) := by
  obtain ⟨⟨hx, hb, hr, hml, hown, hts, hlocks, hK, hL, hE⟩, hlt, hex⟩ := id C0
  unfold f_X6_mark_77 at h
  refine lv_aload hx hb dX6_mark_77 (lv_at hl 3 rfl) ?_
  refine lv_iload_n hx hb dX6_mark_79 rfl (lv_at hl 0 rfl) ?_
  refine lv_iload_n hx hb dX6_mark_80 rfl (lv_at hl 1 rfl) ?_
  refine lv_iload hx hb dX6_mark_81 (lv_at hl 2 rfl) ?_
  obtain ⟨q1, M3, e2, h⟩ := zbp_some h
  obtain ⟨g4, h⟩ := zg_some h
  refine z_calli hS (va_runV (As := [.int x2, .int x3, .int x4]) (rest := []) ⟨hx, hb, hml, hown, hts⟩ (m_X2_changeMark l hL N e2 H.size) (cwV 3 hts gX6_mark_X2_changeMark rfl rfl rfl (by decide +kernel) ⟨Nat.le_of_ble_eq_true rfl, Nat.le_of_ble_eq_true rfl⟩) (z_preV (q := (RX2, TX2, 4)) hK hL hE hW hS (zK_of g4) (by decide) rfl [.int x2, .int x3, .int x4]) rfl rfl hl.1 rfl (lv_room (Nat.le_of_ble_eq_true rfl)) dX6_mark_83 ⟨Nat.le_of_ble_eq_true rfl, Nat.le_of_ble_eq_true rfl⟩) (fun H locs hW hS => ?_)
  exact z_xiret hx hb hr hlocks hW hS (congrArg Prod.fst (Option.some.inj h)) (congrArg Prod.snd (Option.some.inj h)) dX6_mark_86 (Nat.le_of_ble_eq_true rfl) (Nat.le_of_ble_eq_true rfl)
def f_X6_mark_41 (N : Nat) (K len : Nat → Nat) (x2 : Int32) (x3 : Int32) (x4 : Int32) (x5 : Nat) (M : ZM) : Option ((Nat ⊕ Int32) × ZM) :=
(f_X2_forcedHead N K len x5 x3 M).bind fun q1 => (
zg (K x5 == 3) (
(if x4 = (1 : Int32) then
(if q1 = (-1 : Int32) then
f_X6_mark_77 N K len  x2 x3 x4 x5 M
else
(if q1 = x2 then
f_X6_mark_77 N K len  x2 x3 x4 x5 M
else
some (Sum.inl 3, M)))
else
f_X6_mark_77 N K len  x2 x3 x4 x5 M)))
set_option maxRecDepth 100000 in
set_option maxHeartbeats 4000000 in
theorem t_X6_mark_41 {p : Program} {l : Launch} {e : Env} {s : State} {m : MethodId} {args : Array Value} {below : List Frame} {meth : Method} {c : Code} {D : va_G} {cy : Nat → ClassId} {ad : Nat → Nat} {L : List Nat} {K len : Nat → Nat} (C0 : zCxX p l s m c meth args cX6_mark 7 wsX6_mark RX6 (some .int) D cy ad L K) (N : Nat) {x2 : Int32} {x3 : Int32} {x4 : Int32} {x5 : Nat} {M : ZM} {o : Nat ⊕ Int32} {Mr : ZM} (h : f_X6_mark_41 N K len x2 x3 x4 x5 M = some (o, Mr)) {H : Heap} {locs : List Loc} {ls : Array Slot} (hW : zWd D cy ad L K len M H) (hS : va_S (zA ad L s.heap.size) s.heap H locs) (hl : lv_has ls 7 [(2, .int x2), (3, .int x3), (4, .int x4), (5, .ref (ad x5))]) : W p l e (headSpec wsX6_mark ({ frames := 8, cells := 4, slots := 24, locals := 133 } : Room)).room s m args below meth c H locs 3 18 (vx_MQ below (zY D cy ad L K len zvI o Mr s.heap.size) (zX D cy ad L K len o Mr s.heap.size) args s 4 24 (zA ad L s.heap.size)) (F0 m 41 ls []) := by
  obtain ⟨⟨hx, hb, hr, hml, hown, hts, hlocks, hK, hL, hE⟩, hlt, hex⟩ := id C0
  unfold f_X6_mark_41 at h
  refine lv_aload hx hb dX6_mark_41 (lv_at hl 3 rfl) ?_
  refine lv_iload_n hx hb dX6_mark_43 rfl (lv_at hl 1 rfl) ?_
  obtain ⟨q1, e2, h⟩ := zb_some h
  obtain ⟨g3, h⟩ := zg_some h
  refine z_calli hS (va_runV (As := [.int x3]) (rest := []) ⟨hx, hb, hml, hown, hts⟩ (m_X2_forcedHead l hL N e2 H.size) (cwV 1 hts gX6_mark_X2_forcedHead rfl rfl rfl (by decide +kernel) ⟨Nat.le_of_ble_eq_true rfl, Nat.le_of_ble_eq_true rfl⟩) (z_preV (q := (RX2, TX2, 4)) hK hL hE hW hS (zK_of g3) (by decide) rfl [.int x3]) rfl rfl hl.1 rfl (lv_room (Nat.le_of_ble_eq_true rfl)) dX6_mark_44 ⟨Nat.le_of_ble_eq_true rfl, Nat.le_of_ble_eq_true rfl⟩) (fun H locs hW hS => ?_)
  refine lv_istore (lv' := [(6, .int q1), (2, .int x2), (3, .int x3), (4, .int x4), (5, .ref (ad x5))]) hx hb dX6_mark_47 hl (by decide) rfl (fun ls hl => ?_)
  refine lv_iload hx hb dX6_mark_49 (lv_at hl 3 rfl) ?_
  refine lv_iconst (v := 1) hx hb dX6_mark_51 (by decide) ?_
  refine lv_icmp_ne (tgt := 77) hx hb dX6_mark_52 (by decide) (fun c4 => ?_) (fun c4 => ?_)
  · have h := zin c4 h
    exact t_X6_mark_77 C0 N  h hW hS (lv_sub hl [1, 2, 3, 4] rfl)
  · have h := zip c4 h
    refine lv_iload hx hb dX6_mark_55 (lv_at hl 0 rfl) ?_
    refine lv_iconst (v := -1) hx hb dX6_mark_57 (by decide) ?_
    refine lv_icmp_eq (tgt := 77) hx hb dX6_mark_58 (by decide) (fun c5 => ?_) (fun c5 => ?_)
    · have h := zip c5 h
      exact t_X6_mark_77 C0 N  h hW hS (lv_sub hl [1, 2, 3, 4] rfl)
    · have h := zin c5 h
      refine lv_iload hx hb dX6_mark_61 (lv_at hl 0 rfl) ?_
      refine lv_iload_n hx hb dX6_mark_63 rfl (lv_at hl 1 rfl) ?_
      refine lv_icmp_eq (tgt := 77) hx hb dX6_mark_64 (by decide) (fun c6 => ?_) (fun c6 => ?_)
      · have h := zip c6 h
        exact t_X6_mark_77 C0 N  h hW hS (lv_sub hl [1, 2, 3, 4] rfl)
      · have h := zin c6 h
        have hgw : ∀ w ∈ (vx_atS RX6 58 (zexn 3) znames).filter goodWord, w ∈ wsX6_mark := by decide +kernel
        exact z_throw (own := RX6) (k := 3) (ik := 54) (is := 124) (ic := 58) (text := "another arc to the word is forced") (names := znames) hx hb hlt hown zfit3 znames_fit (hts (.classLink RX6 54 "java/lang/IllegalStateException") (by decide +kernel)) (hts (.initialized "java/lang/IllegalStateException") (by decide +kernel)) (hE.2.2.2.1 (124, "another arc to the word is forced") (by decide)) (vx_hat (B := znw) (fun w hw => hts w (hgw w hw)) (by decide +kernel) (znw_use hE.1)) (by decide +kernel) hE hW hS (hl.1.trans hml.symm) dX6_mark_67 dX6_mark_70 dX6_mark_71 dX6_mark_73 dX6_mark_76 hex (congrArg Prod.fst (Option.some.inj h)).symm (congrArg Prod.snd (Option.some.inj h)) (Nat.le_of_ble_eq_true rfl) (Nat.le_of_ble_eq_true rfl) (Nat.le_of_ble_eq_true rfl) (Nat.le_of_ble_eq_true rfl) hlocks (Nat.le_of_ble_eq_true rfl) (Nat.le_of_ble_eq_true rfl)
def f_X6_mark_0 (N : Nat) (K len : Nat → Nat) (x0 : Nat) (x1 : Int32) (x2 : Int32) (x3 : Int32) (x4 : Int32) (M : ZM) : Option ((Nat ⊕ Int32) × ZM) :=
zg (K x0 == 7) (
(f_X6_find N K len x0 x1 M).bind fun q1 => (
zx q1 (fun k => some (Sum.inl k, M)) fun r4 => (
(f_X6_checkArc N K len r4 x2 x3 M).bind fun q5 => (
zx q5 (fun k => some (Sum.inl k, M)) fun r7 => (
(if x4 = 0 then
f_X6_mark_41 N K len  x2 x3 x4 r4 M
else
(if x4 = (1 : Int32) then
f_X6_mark_41 N K len  x2 x3 x4 r4 M
else
(if x4 = (2 : Int32) then
f_X6_mark_41 N K len  x2 x3 x4 r4 M
else
some (Sum.inl 2, M)))))))))
set_option maxRecDepth 100000 in
set_option maxHeartbeats 4000000 in
theorem t_X6_mark_0 {p : Program} {l : Launch} {e : Env} {s : State} {m : MethodId} {args : Array Value} {below : List Frame} {meth : Method} {c : Code} {D : va_G} {cy : Nat → ClassId} {ad : Nat → Nat} {L : List Nat} {K len : Nat → Nat} (C0 : zCxX p l s m c meth args cX6_mark 7 wsX6_mark RX6 (some .int) D cy ad L K) (N : Nat) {x0 : Nat} {x1 : Int32} {x2 : Int32} {x3 : Int32} {x4 : Int32} {M : ZM} {o : Nat ⊕ Int32} {Mr : ZM} (h : f_X6_mark_0 N K len x0 x1 x2 x3 x4 M = some (o, Mr)) {H : Heap} {locs : List Loc} {ls : Array Slot} (hW : zWd D cy ad L K len M H) (hS : va_S (zA ad L s.heap.size) s.heap H locs) (hl : lv_has ls 7 [(0, .ref (ad x0)), (1, .int x1), (2, .int x2), (3, .int x3), (4, .int x4)]) : W p l e (headSpec wsX6_mark ({ frames := 8, cells := 4, slots := 24, locals := 133 } : Room)).room s m args below meth c H locs 0 0 (vx_MQ below (zY D cy ad L K len zvI o Mr s.heap.size) (zX D cy ad L K len o Mr s.heap.size) args s 4 24 (zA ad L s.heap.size)) (F0 m 0 ls []) := by
  obtain ⟨⟨hx, hb, hr, hml, hown, hts, hlocks, hK, hL, hE⟩, hlt, hex⟩ := id C0
  unfold f_X6_mark_0 at h
  refine lv_aload_n hx hb dX6_mark_0 rfl (lv_at hl 0 rfl) ?_
  refine lv_iload_n hx hb dX6_mark_1 rfl (lv_at hl 1 rfl) ?_
  obtain ⟨g3, h⟩ := zg_some h
  obtain ⟨q1, e2, h⟩ := zb_some h
  refine z_xcallr hS (vx_runV (As := [.int x1]) (rest := []) ⟨hx, hb, hml, hown, hts⟩ (m_X6_find l hlt hL N e2 H.size) (cwV 1 hts gX6_mark_X6_find rfl rfl rfl (by decide +kernel) ⟨Nat.le_of_ble_eq_true rfl, Nat.le_of_ble_eq_true rfl⟩) (z_preV (q := (RX6, TX6, 7)) hK hL hE hW hS (zK_of g3) (by decide) rfl [.int x1]) rfl rfl hl.1 rfl (lv_room (Nat.le_of_ble_eq_true rfl)) dX6_mark_2 ⟨Nat.le_of_ble_eq_true rfl, Nat.le_of_ble_eq_true rfl⟩) (fun k hk H locs q9 ce hW hS hce hcv hcl => by subst hk; have h := zx_l h; exact z_xout hex hlocks (congrArg Prod.fst (Option.some.inj h)).symm (congrArg Prod.snd (Option.some.inj h)) hW hS hce hcv hcl (Nat.le_of_ble_eq_true rfl) (Nat.le_of_ble_eq_true rfl)) (fun r4 hk H locs hW hS => ?_)
  subst hk
  have h := zx_r h
  refine lv_astore (lv' := [(5, .ref (ad r4)), (0, .ref (ad x0)), (1, .int x1), (2, .int x2), (3, .int x3), (4, .int x4)]) hx hb dX6_mark_5 hl (by decide) rfl (fun ls hl => ?_)
  refine lv_aload hx hb dX6_mark_7 (lv_at hl 0 rfl) ?_
  refine lv_iload_n hx hb dX6_mark_9 rfl (lv_at hl 3 rfl) ?_
  refine lv_iload_n hx hb dX6_mark_10 rfl (lv_at hl 4 rfl) ?_
  obtain ⟨q5, e6, h⟩ := zb_some h
  refine z_xcallv hS (vx_runS (As := [.ref (ad r4), .int x2, .int x3]) (rest := []) ⟨hx, hb, hml, hown, hts⟩ (m_X6_checkArc l hlt hL N e6 H.size) (va_cwS 3 hts gX6_mark_X6_checkArc rfl rfl rfl (by decide +kernel) ⟨Nat.le_of_ble_eq_true rfl, Nat.le_of_ble_eq_true rfl⟩) (z_preS hK hE hW hS [.ref (ad r4), .int x2, .int x3]) rfl rfl hl.1 rfl (lv_room (Nat.le_of_ble_eq_true rfl)) dX6_mark_11 ⟨Nat.le_of_ble_eq_true rfl, Nat.le_of_ble_eq_true rfl⟩) (fun k hk H locs q9 ce hW hS hce hcv hcl => by subst hk; have h := zx_l h; exact z_xout hex hlocks (congrArg Prod.fst (Option.some.inj h)).symm (congrArg Prod.snd (Option.some.inj h)) hW hS hce hcv hcl (Nat.le_of_ble_eq_true rfl) (Nat.le_of_ble_eq_true rfl)) (fun r7 hk H locs hW hS => ?_)
  subst hk
  have h := zx_r h
  refine lv_iload hx hb dX6_mark_14 (lv_at hl 5 rfl) ?_
  refine lv_if_eq (tgt := 41) hx hb dX6_mark_16 (by decide) (fun c8 => ?_) (fun c8 => ?_)
  · have h := zip c8 h
    exact t_X6_mark_41 C0 N  h hW hS (lv_sub hl [3, 4, 5, 0] rfl)
  · have h := zin c8 h
    refine lv_iload hx hb dX6_mark_19 (lv_at hl 5 rfl) ?_
    refine lv_iconst (v := 1) hx hb dX6_mark_21 (by decide) ?_
    refine lv_icmp_eq (tgt := 41) hx hb dX6_mark_22 (by decide) (fun c9 => ?_) (fun c9 => ?_)
    · have h := zip c9 h
      exact t_X6_mark_41 C0 N  h hW hS (lv_sub hl [3, 4, 5, 0] rfl)
    · have h := zin c9 h
      refine lv_iload hx hb dX6_mark_25 (lv_at hl 5 rfl) ?_
      refine lv_iconst (v := 2) hx hb dX6_mark_27 (by decide) ?_
      refine lv_icmp_eq (tgt := 41) hx hb dX6_mark_28 (by decide) (fun c10 => ?_) (fun c10 => ?_)
      · have h := zip c10 h
        exact t_X6_mark_41 C0 N  h hW hS (lv_sub hl [3, 4, 5, 0] rfl)
      · have h := zin c10 h
        have hgw : ∀ w ∈ (vx_atS RX6 70 (zexn 2) znames).filter goodWord, w ∈ wsX6_mark := by decide +kernel
        exact z_throw (own := RX6) (k := 2) (ik := 66) (is := 119) (ic := 70) (text := "the mark is out of range") (names := znames) hx hb hlt hown zfit2 znames_fit (hts (.classLink RX6 66 "java/lang/IllegalArgumentException") (by decide +kernel)) (hts (.initialized "java/lang/IllegalArgumentException") (by decide +kernel)) (hE.2.2.2.1 (119, "the mark is out of range") (by decide)) (vx_hat (B := znw) (fun w hw => hts w (hgw w hw)) (by decide +kernel) (znw_use hE.1)) (by decide +kernel) hE hW hS (hl.1.trans hml.symm) dX6_mark_31 dX6_mark_34 dX6_mark_35 dX6_mark_37 dX6_mark_40 hex (congrArg Prod.fst (Option.some.inj h)).symm (congrArg Prod.snd (Option.some.inj h)) (Nat.le_of_ble_eq_true rfl) (Nat.le_of_ble_eq_true rfl) (Nat.le_of_ble_eq_true rfl) (Nat.le_of_ble_eq_true rfl) hlocks (Nat.le_of_ble_eq_true rfl) (Nat.le_of_ble_eq_true rfl)
def f_X6_mark (N : Nat) (K len : Nat → Nat) (a0 : Nat) (a1 : Int32) (a2 : Int32) (a3 : Int32) (a4 : Int32) (M : ZM) : Option ((Nat ⊕ Int32) × ZM) := f_X6_mark_0 N K len a0 a1 a2 a3 a4 M
set_option maxRecDepth 100000 in
set_option maxHeartbeats 4000000 in
theorem m_X6_mark (l : Launch) (hlt : l.stackTraces = false) {D : va_G} {cy : Nat → ClassId} {ad : Nat → Nat} {L : List Nat} {K len : Nat → Nat} (hL : zSh ad L K) (N : Nat) {a0 : Nat} {a1 : Int32} {a2 : Int32} {a3 : Int32} {a4 : Int32} {M : ZM} {o : Nat ⊕ Int32} {Mr : ZM} (h : f_X6_mark N K len a0 a1 a2 a3 a4 M = some (o, Mr)) (sz : Nat) : vx_Met l yX6_mark wsX6_mark ({ frames := 8, cells := 4, slots := 24, locals := 133 } : Room) (zPre D cy ad L K len sz [.ref (ad a0), .int a1, .int a2, .int a3, .int a4] M) (zY D cy ad L K len zvI o Mr sz) (zX D cy ad L K len o Mr sz) 4 24 (zA ad L sz) :=
  z_xentry hlt (Qf := fun sz => zY D cy ad L K len zvI o Mr sz) (Xf := fun sz => zX D cy ad L K len o Mr sz) (av := [.ref (ad a0), .int a1, .int a2, .int a3, .int a4]) (by decide) rfl rfl hL (Nat.le_of_ble_eq_true rfl) (fun p e s m args below meth c C0 H locs ls hW hS hl => t_X6_mark_0 C0 N h hW hS (lv_sub hl [0, 1, 2, 3, 4] rfl))
def f_X6_trees_0 (N : Nat) (K len : Nat → Nat) (x0 : Nat) (x1 : Int32) (x2 : Int32) (M : ZM) : Option ((Nat ⊕ Int32) × ZM) :=
zg (K x0 == 7) (
(f_X6_find N K len x0 x1 M).bind fun q1 => (
zx q1 (fun k => some (Sum.inl k, M)) fun r4 => (
zbp (f_X6_tryAll N K len x0 r4 x2 M) fun q5 M7 => (
(f_X4_size N K len q5 M7).bind fun q8 => (
zg (K q5 == 5) (
some (Sum.inr q8, M7)))))))
set_option maxRecDepth 100000 in
set_option maxHeartbeats 4000000 in
theorem t_X6_trees_0 {p : Program} {l : Launch} {e : Env} {s : State} {m : MethodId} {args : Array Value} {below : List Frame} {meth : Method} {c : Code} {D : va_G} {cy : Nat → ClassId} {ad : Nat → Nat} {L : List Nat} {K len : Nat → Nat} (C0 : zCxX p l s m c meth args cX6_trees 3 wsX6_trees RX6 (some .int) D cy ad L K) (N : Nat) {x0 : Nat} {x1 : Int32} {x2 : Int32} {M : ZM} {o : Nat ⊕ Int32} {Mr : ZM} (h : f_X6_trees_0 N K len x0 x1 x2 M = some (o, Mr)) {H : Heap} {locs : List Loc} {ls : Array Slot} (hW : zWd D cy ad L K len M H) (hS : va_S (zA ad L s.heap.size) s.heap H locs) (hl : lv_has ls 3 [(0, .ref (ad x0)), (1, .int x1), (2, .int x2)]) : W p l e (headSpec wsX6_trees ({ frames := 14, cells := 1, slots := 6, locals := 370 } : Room)).room s m args below meth c H locs 0 0 (vx_MQ below (zY D cy ad L K len zvI o Mr s.heap.size) (zX D cy ad L K len o Mr s.heap.size) args s 1 6 (zA ad L s.heap.size)) (F0 m 0 ls []) := by
  obtain ⟨⟨hx, hb, hr, hml, hown, hts, hlocks, hK, hL, hE⟩, hlt, hex⟩ := id C0
  unfold f_X6_trees_0 at h
  refine lv_aload_n hx hb dX6_trees_0 rfl (lv_at hl 0 rfl) ?_
  refine lv_aload_n hx hb dX6_trees_1 rfl (lv_at hl 0 rfl) ?_
  refine lv_iload_n hx hb dX6_trees_2 rfl (lv_at hl 1 rfl) ?_
  obtain ⟨g3, h⟩ := zg_some h
  obtain ⟨q1, e2, h⟩ := zb_some h
  refine z_xcallr hS (vx_runV (As := [.int x1]) (rest := [.ref (ad x0)]) ⟨hx, hb, hml, hown, hts⟩ (m_X6_find l hlt hL N e2 H.size) (cwV 1 hts gX6_trees_X6_find rfl rfl rfl (by decide +kernel) ⟨Nat.le_of_ble_eq_true rfl, Nat.le_of_ble_eq_true rfl⟩) (z_preV (q := (RX6, TX6, 7)) hK hL hE hW hS (zK_of g3) (by decide) rfl [.int x1]) rfl rfl hl.1 rfl (lv_room (Nat.le_of_ble_eq_true rfl)) dX6_trees_3 ⟨Nat.le_of_ble_eq_true rfl, Nat.le_of_ble_eq_true rfl⟩) (fun k hk H locs q9 ce hW hS hce hcv hcl => by subst hk; have h := zx_l h; exact z_xout hex hlocks (congrArg Prod.fst (Option.some.inj h)).symm (congrArg Prod.snd (Option.some.inj h)) hW hS hce hcv hcl (Nat.le_of_ble_eq_true rfl) (Nat.le_of_ble_eq_true rfl)) (fun r4 hk H locs hW hS => ?_)
  subst hk
  have h := zx_r h
  refine lv_iload_n hx hb dX6_trees_6 rfl (lv_at hl 2 rfl) ?_
  obtain ⟨q5, M7, e6, h⟩ := zbp_some h
  refine z_callr hS (va_runV (As := [.ref (ad r4), .int x2]) (rest := []) ⟨hx, hb, hml, hown, hts⟩ (m_X6_tryAll l hL N e6 H.size) (cwV 2 hts gX6_trees_X6_tryAll rfl rfl rfl (by decide +kernel) ⟨Nat.le_of_ble_eq_true rfl, Nat.le_of_ble_eq_true rfl⟩) (z_preV (q := (RX6, TX6, 7)) hK hL hE hW hS (zK_of g3) (by decide) rfl [.ref (ad r4), .int x2]) rfl rfl hl.1 rfl (lv_room (Nat.le_of_ble_eq_true rfl)) dX6_trees_7 ⟨Nat.le_of_ble_eq_true rfl, Nat.le_of_ble_eq_true rfl⟩) (fun H locs hW hS => ?_)
  obtain ⟨q8, e9, h⟩ := zb_some h
  obtain ⟨g10, h⟩ := zg_some h
  refine z_calli hS (va_runV (As := []) (rest := []) ⟨hx, hb, hml, hown, hts⟩ (m_X4_size l hL N e9 H.size) (cwV 0 hts gX6_trees_X4_size rfl rfl rfl (by decide +kernel) ⟨Nat.le_of_ble_eq_true rfl, Nat.le_of_ble_eq_true rfl⟩) (z_preV (q := (RX4, TX4, 3)) hK hL hE hW hS (zK_of g10) (by decide) rfl []) rfl rfl hl.1 rfl (lv_room (Nat.le_of_ble_eq_true rfl)) dX6_trees_10 ⟨Nat.le_of_ble_eq_true rfl, Nat.le_of_ble_eq_true rfl⟩) (fun H locs hW hS => ?_)
  exact z_xiret hx hb hr hlocks hW hS (congrArg Prod.fst (Option.some.inj h)) (congrArg Prod.snd (Option.some.inj h)) dX6_trees_13 (Nat.le_of_ble_eq_true rfl) (Nat.le_of_ble_eq_true rfl)
def f_X6_trees (N : Nat) (K len : Nat → Nat) (a0 : Nat) (a1 : Int32) (a2 : Int32) (M : ZM) : Option ((Nat ⊕ Int32) × ZM) := f_X6_trees_0 N K len a0 a1 a2 M
set_option maxRecDepth 100000 in
set_option maxHeartbeats 4000000 in
theorem m_X6_trees (l : Launch) (hlt : l.stackTraces = false) {D : va_G} {cy : Nat → ClassId} {ad : Nat → Nat} {L : List Nat} {K len : Nat → Nat} (hL : zSh ad L K) (N : Nat) {a0 : Nat} {a1 : Int32} {a2 : Int32} {M : ZM} {o : Nat ⊕ Int32} {Mr : ZM} (h : f_X6_trees N K len a0 a1 a2 M = some (o, Mr)) (sz : Nat) : vx_Met l yX6_trees wsX6_trees ({ frames := 14, cells := 1, slots := 6, locals := 370 } : Room) (zPre D cy ad L K len sz [.ref (ad a0), .int a1, .int a2] M) (zY D cy ad L K len zvI o Mr sz) (zX D cy ad L K len o Mr sz) 1 6 (zA ad L sz) :=
  z_xentry hlt (Qf := fun sz => zY D cy ad L K len zvI o Mr sz) (Xf := fun sz => zX D cy ad L K len o Mr sz) (av := [.ref (ad a0), .int a1, .int a2]) (by decide) rfl rfl hL (Nat.le_of_ble_eq_true rfl) (fun p e s m args below meth c C0 H locs ls hW hS hl => t_X6_trees_0 C0 N h hW hS (lv_sub hl [0, 1, 2] rfl))
def f_X6_best_0 (N : Nat) (K len : Nat → Nat) (x0 : Nat) (x1 : Int32) (x2 : Int32) (M : ZM) : Option ((Nat ⊕ Int32) × ZM) :=
zg (K x0 == 7) (
(f_X6_find N K len x0 x1 M).bind fun q1 => (
zx q1 (fun k => some (Sum.inl k, M)) fun r4 => (
zbp (f_X6_bestKey N K len x0 r4 x2 M) fun q5 M7 => (
zx q5 (fun k => some (Sum.inl k, M7)) fun r8 => (
(f_X6_scoreIn N r8).bind fun q9 => (
some (Sum.inr q9, M7)))))))
set_option maxRecDepth 100000 in
set_option maxHeartbeats 4000000 in
theorem t_X6_best_0 {p : Program} {l : Launch} {e : Env} {s : State} {m : MethodId} {args : Array Value} {below : List Frame} {meth : Method} {c : Code} {D : va_G} {cy : Nat → ClassId} {ad : Nat → Nat} {L : List Nat} {K len : Nat → Nat} (C0 : zCxX p l s m c meth args cX6_best 3 wsX6_best RX6 (some .int) D cy ad L K) (N : Nat) {x0 : Nat} {x1 : Int32} {x2 : Int32} {M : ZM} {o : Nat ⊕ Int32} {Mr : ZM} (h : f_X6_best_0 N K len x0 x1 x2 M = some (o, Mr)) {H : Heap} {locs : List Loc} {ls : Array Slot} (hW : zWd D cy ad L K len M H) (hS : va_S (zA ad L s.heap.size) s.heap H locs) (hl : lv_has ls 3 [(0, .ref (ad x0)), (1, .int x1), (2, .int x2)]) : W p l e (headSpec wsX6_best ({ frames := 8, cells := 2, slots := 12, locals := 135 } : Room)).room s m args below meth c H locs 0 0 (vx_MQ below (zY D cy ad L K len zvI o Mr s.heap.size) (zX D cy ad L K len o Mr s.heap.size) args s 2 12 (zA ad L s.heap.size)) (F0 m 0 ls []) := by
  obtain ⟨⟨hx, hb, hr, hml, hown, hts, hlocks, hK, hL, hE⟩, hlt, hex⟩ := id C0
  unfold f_X6_best_0 at h
  refine lv_aload_n hx hb dX6_best_0 rfl (lv_at hl 0 rfl) ?_
  refine lv_aload_n hx hb dX6_best_1 rfl (lv_at hl 0 rfl) ?_
  refine lv_iload_n hx hb dX6_best_2 rfl (lv_at hl 1 rfl) ?_
  obtain ⟨g3, h⟩ := zg_some h
  obtain ⟨q1, e2, h⟩ := zb_some h
  refine z_xcallr hS (vx_runV (As := [.int x1]) (rest := [.ref (ad x0)]) ⟨hx, hb, hml, hown, hts⟩ (m_X6_find l hlt hL N e2 H.size) (cwV 1 hts gX6_best_X6_find rfl rfl rfl (by decide +kernel) ⟨Nat.le_of_ble_eq_true rfl, Nat.le_of_ble_eq_true rfl⟩) (z_preV (q := (RX6, TX6, 7)) hK hL hE hW hS (zK_of g3) (by decide) rfl [.int x1]) rfl rfl hl.1 rfl (lv_room (Nat.le_of_ble_eq_true rfl)) dX6_best_3 ⟨Nat.le_of_ble_eq_true rfl, Nat.le_of_ble_eq_true rfl⟩) (fun k hk H locs q9 ce hW hS hce hcv hcl => by subst hk; have h := zx_l h; exact z_xout hex hlocks (congrArg Prod.fst (Option.some.inj h)).symm (congrArg Prod.snd (Option.some.inj h)) hW hS hce hcv hcl (Nat.le_of_ble_eq_true rfl) (Nat.le_of_ble_eq_true rfl)) (fun r4 hk H locs hW hS => ?_)
  subst hk
  have h := zx_r h
  refine lv_iload_n hx hb dX6_best_6 rfl (lv_at hl 2 rfl) ?_
  obtain ⟨q5, M7, e6, h⟩ := zbp_some h
  refine z_xcalll hS (vx_runV (As := [.ref (ad r4), .int x2]) (rest := []) ⟨hx, hb, hml, hown, hts⟩ (m_X6_bestKey l hlt hL N e6 H.size) (cwV 2 hts gX6_best_X6_bestKey rfl rfl rfl (by decide +kernel) ⟨Nat.le_of_ble_eq_true rfl, Nat.le_of_ble_eq_true rfl⟩) (z_preV (q := (RX6, TX6, 7)) hK hL hE hW hS (zK_of g3) (by decide) rfl [.ref (ad r4), .int x2]) rfl rfl hl.1 rfl (lv_room (Nat.le_of_ble_eq_true rfl)) dX6_best_7 ⟨Nat.le_of_ble_eq_true rfl, Nat.le_of_ble_eq_true rfl⟩) (fun k hk H locs q9 ce hW hS hce hcv hcl => by subst hk; have h := zx_l h; exact z_xout hex hlocks (congrArg Prod.fst (Option.some.inj h)).symm (congrArg Prod.snd (Option.some.inj h)) hW hS hce hcv hcl (Nat.le_of_ble_eq_true rfl) (Nat.le_of_ble_eq_true rfl)) (fun r8 hk H locs hW hS => ?_)
  subst hk
  have h := zx_r h
  obtain ⟨q9, e10, h⟩ := zb_some h
  refine z_calli hS (va_runS (As := [.long r8]) (rest := []) ⟨hx, hb, hml, hown, hts⟩ (m_X6_scoreIn l (M := M7) hL N e10 H.size) (va_cwS 1 hts gX6_best_X6_scoreIn rfl rfl rfl (by decide +kernel) ⟨Nat.le_of_ble_eq_true rfl, Nat.le_of_ble_eq_true rfl⟩) (z_preS hK hE hW hS [.long r8]) rfl rfl hl.1 rfl (lv_room (Nat.le_of_ble_eq_true rfl)) dX6_best_10 ⟨Nat.le_of_ble_eq_true rfl, Nat.le_of_ble_eq_true rfl⟩) (fun H locs hW hS => ?_)
  exact z_xiret hx hb hr hlocks hW hS (congrArg Prod.fst (Option.some.inj h)) (congrArg Prod.snd (Option.some.inj h)) dX6_best_13 (Nat.le_of_ble_eq_true rfl) (Nat.le_of_ble_eq_true rfl)
def f_X6_best (N : Nat) (K len : Nat → Nat) (a0 : Nat) (a1 : Int32) (a2 : Int32) (M : ZM) : Option ((Nat ⊕ Int32) × ZM) := f_X6_best_0 N K len a0 a1 a2 M
set_option maxRecDepth 100000 in
set_option maxHeartbeats 4000000 in
theorem m_X6_best (l : Launch) (hlt : l.stackTraces = false) {D : va_G} {cy : Nat → ClassId} {ad : Nat → Nat} {L : List Nat} {K len : Nat → Nat} (hL : zSh ad L K) (N : Nat) {a0 : Nat} {a1 : Int32} {a2 : Int32} {M : ZM} {o : Nat ⊕ Int32} {Mr : ZM} (h : f_X6_best N K len a0 a1 a2 M = some (o, Mr)) (sz : Nat) : vx_Met l yX6_best wsX6_best ({ frames := 8, cells := 2, slots := 12, locals := 135 } : Room) (zPre D cy ad L K len sz [.ref (ad a0), .int a1, .int a2] M) (zY D cy ad L K len zvI o Mr sz) (zX D cy ad L K len o Mr sz) 2 12 (zA ad L sz) :=
  z_xentry hlt (Qf := fun sz => zY D cy ad L K len zvI o Mr sz) (Xf := fun sz => zX D cy ad L K len o Mr sz) (av := [.ref (ad a0), .int a1, .int a2]) (by decide) rfl rfl hL (Nat.le_of_ble_eq_true rfl) (fun p e s m args below meth c C0 H locs ls hW hS hl => t_X6_best_0 C0 N h hW hS (lv_sub hl [0, 1, 2] rfl))
def f_X6_bestByTrying_0 (N : Nat) (K len : Nat → Nat) (x0 : Nat) (x1 : Int32) (x2 : Int32) (M : ZM) : Option ((Nat ⊕ Int32) × ZM) :=
zg (K x0 == 7) (
(f_X6_find N K len x0 x1 M).bind fun q1 => (
zx q1 (fun k => some (Sum.inl k, M)) fun r4 => (
zbp (f_X6_tryAll N K len x0 r4 x2 M) fun q5 M7 => (
(f_X4_greatest N K len q5 M7).bind fun q8 => (
zg (K q5 == 5) (
(f_X6_checkTree N q8).bind fun q11 => (
zx q11 (fun k => some (Sum.inl k, M7)) fun r13 => (
(f_X6_scoreIn N q8).bind fun q14 => (
some (Sum.inr q14, M7))))))))))
set_option maxRecDepth 100000 in
set_option maxHeartbeats 4000000 in
theorem t_X6_bestByTrying_0 {p : Program} {l : Launch} {e : Env} {s : State} {m : MethodId} {args : Array Value} {below : List Frame} {meth : Method} {c : Code} {D : va_G} {cy : Nat → ClassId} {ad : Nat → Nat} {L : List Nat} {K len : Nat → Nat} (C0 : zCxX p l s m c meth args cX6_bestByTrying 5 wsX6_bestByTrying RX6 (some .int) D cy ad L K) (N : Nat) {x0 : Nat} {x1 : Int32} {x2 : Int32} {M : ZM} {o : Nat ⊕ Int32} {Mr : ZM} (h : f_X6_bestByTrying_0 N K len x0 x1 x2 M = some (o, Mr)) {H : Heap} {locs : List Loc} {ls : Array Slot} (hW : zWd D cy ad L K len M H) (hS : va_S (zA ad L s.heap.size) s.heap H locs) (hl : lv_has ls 5 [(0, .ref (ad x0)), (1, .int x1), (2, .int x2)]) : W p l e (headSpec wsX6_bestByTrying ({ frames := 14, cells := 2, slots := 12, locals := 370 } : Room)).room s m args below meth c H locs 0 0 (vx_MQ below (zY D cy ad L K len zvI o Mr s.heap.size) (zX D cy ad L K len o Mr s.heap.size) args s 2 12 (zA ad L s.heap.size)) (F0 m 0 ls []) := by
  obtain ⟨⟨hx, hb, hr, hml, hown, hts, hlocks, hK, hL, hE⟩, hlt, hex⟩ := id C0
  unfold f_X6_bestByTrying_0 at h
  refine lv_aload_n hx hb dX6_bestByTrying_0 rfl (lv_at hl 0 rfl) ?_
  refine lv_aload_n hx hb dX6_bestByTrying_1 rfl (lv_at hl 0 rfl) ?_
  refine lv_iload_n hx hb dX6_bestByTrying_2 rfl (lv_at hl 1 rfl) ?_
  obtain ⟨g3, h⟩ := zg_some h
  obtain ⟨q1, e2, h⟩ := zb_some h
  refine z_xcallr hS (vx_runV (As := [.int x1]) (rest := [.ref (ad x0)]) ⟨hx, hb, hml, hown, hts⟩ (m_X6_find l hlt hL N e2 H.size) (cwV 1 hts gX6_bestByTrying_X6_find rfl rfl rfl (by decide +kernel) ⟨Nat.le_of_ble_eq_true rfl, Nat.le_of_ble_eq_true rfl⟩) (z_preV (q := (RX6, TX6, 7)) hK hL hE hW hS (zK_of g3) (by decide) rfl [.int x1]) rfl rfl hl.1 rfl (lv_room (Nat.le_of_ble_eq_true rfl)) dX6_bestByTrying_3 ⟨Nat.le_of_ble_eq_true rfl, Nat.le_of_ble_eq_true rfl⟩) (fun k hk H locs q9 ce hW hS hce hcv hcl => by subst hk; have h := zx_l h; exact z_xout hex hlocks (congrArg Prod.fst (Option.some.inj h)).symm (congrArg Prod.snd (Option.some.inj h)) hW hS hce hcv hcl (Nat.le_of_ble_eq_true rfl) (Nat.le_of_ble_eq_true rfl)) (fun r4 hk H locs hW hS => ?_)
  subst hk
  have h := zx_r h
  refine lv_iload_n hx hb dX6_bestByTrying_6 rfl (lv_at hl 2 rfl) ?_
  obtain ⟨q5, M7, e6, h⟩ := zbp_some h
  refine z_callr hS (va_runV (As := [.ref (ad r4), .int x2]) (rest := []) ⟨hx, hb, hml, hown, hts⟩ (m_X6_tryAll l hL N e6 H.size) (cwV 2 hts gX6_bestByTrying_X6_tryAll rfl rfl rfl (by decide +kernel) ⟨Nat.le_of_ble_eq_true rfl, Nat.le_of_ble_eq_true rfl⟩) (z_preV (q := (RX6, TX6, 7)) hK hL hE hW hS (zK_of g3) (by decide) rfl [.ref (ad r4), .int x2]) rfl rfl hl.1 rfl (lv_room (Nat.le_of_ble_eq_true rfl)) dX6_bestByTrying_7 ⟨Nat.le_of_ble_eq_true rfl, Nat.le_of_ble_eq_true rfl⟩) (fun H locs hW hS => ?_)
  obtain ⟨q8, e9, h⟩ := zb_some h
  obtain ⟨g10, h⟩ := zg_some h
  refine z_calll hS (va_runV (As := []) (rest := []) ⟨hx, hb, hml, hown, hts⟩ (m_X4_greatest l hL N e9 H.size) (cwV 0 hts gX6_bestByTrying_X4_greatest rfl rfl rfl (by decide +kernel) ⟨Nat.le_of_ble_eq_true rfl, Nat.le_of_ble_eq_true rfl⟩) (z_preV (q := (RX4, TX4, 3)) hK hL hE hW hS (zK_of g10) (by decide) rfl []) rfl rfl hl.1 rfl (lv_room (Nat.le_of_ble_eq_true rfl)) dX6_bestByTrying_10 ⟨Nat.le_of_ble_eq_true rfl, Nat.le_of_ble_eq_true rfl⟩) (fun H locs hW hS => ?_)
  refine lv_lstore_n (lv' := [(3, .long q8), (0, .ref (ad x0)), (1, .int x1), (2, .int x2)]) hx hb dX6_bestByTrying_13 rfl hl (by decide) rfl (fun ls hl => ?_)
  refine lv_lload_n hx hb dX6_bestByTrying_14 rfl (lv_at hl 0 rfl) ?_
  obtain ⟨q11, e12, h⟩ := zb_some h
  refine z_xcallv hS (vx_runS (As := [.long q8]) (rest := []) ⟨hx, hb, hml, hown, hts⟩ (m_X6_checkTree l hlt (M := M7) hL N e12 H.size) (va_cwS 1 hts gX6_bestByTrying_X6_checkTree rfl rfl rfl (by decide +kernel) ⟨Nat.le_of_ble_eq_true rfl, Nat.le_of_ble_eq_true rfl⟩) (z_preS hK hE hW hS [.long q8]) rfl rfl hl.1 rfl (lv_room (Nat.le_of_ble_eq_true rfl)) dX6_bestByTrying_15 ⟨Nat.le_of_ble_eq_true rfl, Nat.le_of_ble_eq_true rfl⟩) (fun k hk H locs q9 ce hW hS hce hcv hcl => by subst hk; have h := zx_l h; exact z_xout hex hlocks (congrArg Prod.fst (Option.some.inj h)).symm (congrArg Prod.snd (Option.some.inj h)) hW hS hce hcv hcl (Nat.le_of_ble_eq_true rfl) (Nat.le_of_ble_eq_true rfl)) (fun r13 hk H locs hW hS => ?_)
  subst hk
  have h := zx_r h
  refine lv_lload_n hx hb dX6_bestByTrying_18 rfl (lv_at hl 0 rfl) ?_
  obtain ⟨q14, e15, h⟩ := zb_some h
  refine z_calli hS (va_runS (As := [.long q8]) (rest := []) ⟨hx, hb, hml, hown, hts⟩ (m_X6_scoreIn l (M := M7) hL N e15 H.size) (va_cwS 1 hts gX6_bestByTrying_X6_scoreIn rfl rfl rfl (by decide +kernel) ⟨Nat.le_of_ble_eq_true rfl, Nat.le_of_ble_eq_true rfl⟩) (z_preS hK hE hW hS [.long q8]) rfl rfl hl.1 rfl (lv_room (Nat.le_of_ble_eq_true rfl)) dX6_bestByTrying_19 ⟨Nat.le_of_ble_eq_true rfl, Nat.le_of_ble_eq_true rfl⟩) (fun H locs hW hS => ?_)
  exact z_xiret hx hb hr hlocks hW hS (congrArg Prod.fst (Option.some.inj h)) (congrArg Prod.snd (Option.some.inj h)) dX6_bestByTrying_22 (Nat.le_of_ble_eq_true rfl) (Nat.le_of_ble_eq_true rfl)
def f_X6_bestByTrying (N : Nat) (K len : Nat → Nat) (a0 : Nat) (a1 : Int32) (a2 : Int32) (M : ZM) : Option ((Nat ⊕ Int32) × ZM) := f_X6_bestByTrying_0 N K len a0 a1 a2 M
set_option maxRecDepth 100000 in
set_option maxHeartbeats 4000000 in
theorem m_X6_bestByTrying (l : Launch) (hlt : l.stackTraces = false) {D : va_G} {cy : Nat → ClassId} {ad : Nat → Nat} {L : List Nat} {K len : Nat → Nat} (hL : zSh ad L K) (N : Nat) {a0 : Nat} {a1 : Int32} {a2 : Int32} {M : ZM} {o : Nat ⊕ Int32} {Mr : ZM} (h : f_X6_bestByTrying N K len a0 a1 a2 M = some (o, Mr)) (sz : Nat) : vx_Met l yX6_bestByTrying wsX6_bestByTrying ({ frames := 14, cells := 2, slots := 12, locals := 370 } : Room) (zPre D cy ad L K len sz [.ref (ad a0), .int a1, .int a2] M) (zY D cy ad L K len zvI o Mr sz) (zX D cy ad L K len o Mr sz) 2 12 (zA ad L sz) :=
  z_xentry hlt (Qf := fun sz => zY D cy ad L K len zvI o Mr sz) (Xf := fun sz => zX D cy ad L K len o Mr sz) (av := [.ref (ad a0), .int a1, .int a2]) (by decide) rfl rfl hL (Nat.le_of_ble_eq_true rfl) (fun p e s m args below meth c C0 H locs ls hW hS hl => t_X6_bestByTrying_0 C0 N h hW hS (lv_sub hl [0, 1, 2] rfl))
def f_X6_head_0 (N : Nat) (K len : Nat → Nat) (x0 : Nat) (x1 : Int32) (x2 : Int32) (x3 : Int32) (M : ZM) : Option ((Nat ⊕ Int32) × ZM) :=
zg (K x0 == 7) (
(f_X6_find N K len x0 x1 M).bind fun q1 => (
zx q1 (fun k => some (Sum.inl k, M)) fun r4 => (
(f_X6_checkWord N K len r4 x3 M).bind fun q5 => (
zx q5 (fun k => some (Sum.inl k, M)) fun r7 => (
zbp (f_X6_bestKey N K len x0 r4 x2 M) fun q8 M10 => (
zx q8 (fun k => some (Sum.inl k, M10)) fun r11 => (
(f_X6_headIn N r11 x3).bind fun q12 => (
some (Sum.inr q12, M10)))))))))
set_option maxRecDepth 100000 in
set_option maxHeartbeats 4000000 in
theorem t_X6_head_0 {p : Program} {l : Launch} {e : Env} {s : State} {m : MethodId} {args : Array Value} {below : List Frame} {meth : Method} {c : Code} {D : va_G} {cy : Nat → ClassId} {ad : Nat → Nat} {L : List Nat} {K len : Nat → Nat} (C0 : zCxX p l s m c meth args cX6_head 5 wsX6_head RX6 (some .int) D cy ad L K) (N : Nat) {x0 : Nat} {x1 : Int32} {x2 : Int32} {x3 : Int32} {M : ZM} {o : Nat ⊕ Int32} {Mr : ZM} (h : f_X6_head_0 N K len x0 x1 x2 x3 M = some (o, Mr)) {H : Heap} {locs : List Loc} {ls : Array Slot} (hW : zWd D cy ad L K len M H) (hS : va_S (zA ad L s.heap.size) s.heap H locs) (hl : lv_has ls 5 [(0, .ref (ad x0)), (1, .int x1), (2, .int x2), (3, .int x3)]) : W p l e (headSpec wsX6_head ({ frames := 8, cells := 3, slots := 18, locals := 135 } : Room)).room s m args below meth c H locs 0 0 (vx_MQ below (zY D cy ad L K len zvI o Mr s.heap.size) (zX D cy ad L K len o Mr s.heap.size) args s 3 18 (zA ad L s.heap.size)) (F0 m 0 ls []) := by
  obtain ⟨⟨hx, hb, hr, hml, hown, hts, hlocks, hK, hL, hE⟩, hlt, hex⟩ := id C0
  unfold f_X6_head_0 at h
  refine lv_aload_n hx hb dX6_head_0 rfl (lv_at hl 0 rfl) ?_
  refine lv_iload_n hx hb dX6_head_1 rfl (lv_at hl 1 rfl) ?_
  obtain ⟨g3, h⟩ := zg_some h
  obtain ⟨q1, e2, h⟩ := zb_some h
  refine z_xcallr hS (vx_runV (As := [.int x1]) (rest := []) ⟨hx, hb, hml, hown, hts⟩ (m_X6_find l hlt hL N e2 H.size) (cwV 1 hts gX6_head_X6_find rfl rfl rfl (by decide +kernel) ⟨Nat.le_of_ble_eq_true rfl, Nat.le_of_ble_eq_true rfl⟩) (z_preV (q := (RX6, TX6, 7)) hK hL hE hW hS (zK_of g3) (by decide) rfl [.int x1]) rfl rfl hl.1 rfl (lv_room (Nat.le_of_ble_eq_true rfl)) dX6_head_2 ⟨Nat.le_of_ble_eq_true rfl, Nat.le_of_ble_eq_true rfl⟩) (fun k hk H locs q9 ce hW hS hce hcv hcl => by subst hk; have h := zx_l h; exact z_xout hex hlocks (congrArg Prod.fst (Option.some.inj h)).symm (congrArg Prod.snd (Option.some.inj h)) hW hS hce hcv hcl (Nat.le_of_ble_eq_true rfl) (Nat.le_of_ble_eq_true rfl)) (fun r4 hk H locs hW hS => ?_)
  subst hk
  have h := zx_r h
  refine lv_astore (lv' := [(4, .ref (ad r4)), (0, .ref (ad x0)), (1, .int x1), (2, .int x2), (3, .int x3)]) hx hb dX6_head_5 hl (by decide) rfl (fun ls hl => ?_)
  refine lv_aload hx hb dX6_head_7 (lv_at hl 0 rfl) ?_
  refine lv_iload_n hx hb dX6_head_9 rfl (lv_at hl 4 rfl) ?_
  obtain ⟨q5, e6, h⟩ := zb_some h
  refine z_xcallv hS (vx_runS (As := [.ref (ad r4), .int x3]) (rest := []) ⟨hx, hb, hml, hown, hts⟩ (m_X6_checkWord l hlt hL N e6 H.size) (va_cwS 2 hts gX6_head_X6_checkWord rfl rfl rfl (by decide +kernel) ⟨Nat.le_of_ble_eq_true rfl, Nat.le_of_ble_eq_true rfl⟩) (z_preS hK hE hW hS [.ref (ad r4), .int x3]) rfl rfl hl.1 rfl (lv_room (Nat.le_of_ble_eq_true rfl)) dX6_head_10 ⟨Nat.le_of_ble_eq_true rfl, Nat.le_of_ble_eq_true rfl⟩) (fun k hk H locs q9 ce hW hS hce hcv hcl => by subst hk; have h := zx_l h; exact z_xout hex hlocks (congrArg Prod.fst (Option.some.inj h)).symm (congrArg Prod.snd (Option.some.inj h)) hW hS hce hcv hcl (Nat.le_of_ble_eq_true rfl) (Nat.le_of_ble_eq_true rfl)) (fun r7 hk H locs hW hS => ?_)
  subst hk
  have h := zx_r h
  refine lv_aload_n hx hb dX6_head_13 rfl (lv_at hl 1 rfl) ?_
  refine lv_aload hx hb dX6_head_14 (lv_at hl 0 rfl) ?_
  refine lv_iload_n hx hb dX6_head_16 rfl (lv_at hl 3 rfl) ?_
  obtain ⟨q8, M10, e9, h⟩ := zbp_some h
  refine z_xcalll hS (vx_runV (As := [.ref (ad r4), .int x2]) (rest := []) ⟨hx, hb, hml, hown, hts⟩ (m_X6_bestKey l hlt hL N e9 H.size) (cwV 2 hts gX6_head_X6_bestKey rfl rfl rfl (by decide +kernel) ⟨Nat.le_of_ble_eq_true rfl, Nat.le_of_ble_eq_true rfl⟩) (z_preV (q := (RX6, TX6, 7)) hK hL hE hW hS (zK_of g3) (by decide) rfl [.ref (ad r4), .int x2]) rfl rfl hl.1 rfl (lv_room (Nat.le_of_ble_eq_true rfl)) dX6_head_17 ⟨Nat.le_of_ble_eq_true rfl, Nat.le_of_ble_eq_true rfl⟩) (fun k hk H locs q9 ce hW hS hce hcv hcl => by subst hk; have h := zx_l h; exact z_xout hex hlocks (congrArg Prod.fst (Option.some.inj h)).symm (congrArg Prod.snd (Option.some.inj h)) hW hS hce hcv hcl (Nat.le_of_ble_eq_true rfl) (Nat.le_of_ble_eq_true rfl)) (fun r11 hk H locs hW hS => ?_)
  subst hk
  have h := zx_r h
  refine lv_iload_n hx hb dX6_head_20 rfl (lv_at hl 4 rfl) ?_
  obtain ⟨q12, e13, h⟩ := zb_some h
  refine z_calli hS (va_runS (As := [.long r11, .int x3]) (rest := []) ⟨hx, hb, hml, hown, hts⟩ (m_X6_headIn l (M := M10) hL N e13 H.size) (va_cwS 2 hts gX6_head_X6_headIn rfl rfl rfl (by decide +kernel) ⟨Nat.le_of_ble_eq_true rfl, Nat.le_of_ble_eq_true rfl⟩) (z_preS hK hE hW hS [.long r11, .int x3]) rfl rfl hl.1 rfl (lv_room (Nat.le_of_ble_eq_true rfl)) dX6_head_21 ⟨Nat.le_of_ble_eq_true rfl, Nat.le_of_ble_eq_true rfl⟩) (fun H locs hW hS => ?_)
  exact z_xiret hx hb hr hlocks hW hS (congrArg Prod.fst (Option.some.inj h)) (congrArg Prod.snd (Option.some.inj h)) dX6_head_24 (Nat.le_of_ble_eq_true rfl) (Nat.le_of_ble_eq_true rfl)
def f_X6_head (N : Nat) (K len : Nat → Nat) (a0 : Nat) (a1 : Int32) (a2 : Int32) (a3 : Int32) (M : ZM) : Option ((Nat ⊕ Int32) × ZM) := f_X6_head_0 N K len a0 a1 a2 a3 M
set_option maxRecDepth 100000 in
set_option maxHeartbeats 4000000 in
theorem m_X6_head (l : Launch) (hlt : l.stackTraces = false) {D : va_G} {cy : Nat → ClassId} {ad : Nat → Nat} {L : List Nat} {K len : Nat → Nat} (hL : zSh ad L K) (N : Nat) {a0 : Nat} {a1 : Int32} {a2 : Int32} {a3 : Int32} {M : ZM} {o : Nat ⊕ Int32} {Mr : ZM} (h : f_X6_head N K len a0 a1 a2 a3 M = some (o, Mr)) (sz : Nat) : vx_Met l yX6_head wsX6_head ({ frames := 8, cells := 3, slots := 18, locals := 135 } : Room) (zPre D cy ad L K len sz [.ref (ad a0), .int a1, .int a2, .int a3] M) (zY D cy ad L K len zvI o Mr sz) (zX D cy ad L K len o Mr sz) 3 18 (zA ad L sz) :=
  z_xentry hlt (Qf := fun sz => zY D cy ad L K len zvI o Mr sz) (Xf := fun sz => zX D cy ad L K len o Mr sz) (av := [.ref (ad a0), .int a1, .int a2, .int a3]) (by decide) rfl rfl hL (Nat.le_of_ble_eq_true rfl) (fun p e s m args below meth c C0 H locs ls hW hS hl => t_X6_head_0 C0 N h hW hS (lv_sub hl [0, 1, 2, 3] rfl))
def f_X6_crossings_63 (N : Nat) (K len : Nat → Nat) (kh19 : Nat → Int64 → Int32 → Int32 → ZM → Option ((Nat ⊕ Int32) × ZM)) (kh31 : Nat → Int64 → Int32 → Int32 → Int32 → ZM → Option ((Nat ⊕ Int32) × ZM)) (x2 : Nat) (x3 : Int64) (x5 : Int32) (x6 : Int32) (x7 : Int32) (M : ZM) : Option ((Nat ⊕ Int32) × ZM) :=
kh31 x2 x3 x5 x6 (x7 + 1) M
set_option maxRecDepth 100000 in
set_option maxHeartbeats 4000000 in
theorem t_X6_crossings_63 {p : Program} {l : Launch} {e : Env} {s : State} {m : MethodId} {args : Array Value} {below : List Frame} {meth : Method} {c : Code} {D : va_G} {cy : Nat → ClassId} {ad : Nat → Nat} {L : List Nat} {K len : Nat → Nat} (C0 : zCxX p l s m c meth args cX6_crossings 8 wsX6_crossings RX6 (some .int) D cy ad L K) (N : Nat) {kh19 : Nat → Int64 → Int32 → Int32 → ZM → Option ((Nat ⊕ Int32) × ZM)} {kh31 : Nat → Int64 → Int32 → Int32 → Int32 → ZM → Option ((Nat ⊕ Int32) × ZM)} {x2 : Nat} {x3 : Int64} {x5 : Int32} {x6 : Int32} {x7 : Int32} {M : ZM} {o : Nat ⊕ Int32} {Mr : ZM} (hk19 : ∀ {y2 : Nat} {y3 : Int64} {y5 : Int32} {y6 : Int32} {M : ZM}, kh19 y2 y3 y5 y6 M = some (o, Mr) → ∀ {H : Heap} {locs : List Loc} {ls : Array Slot}, zWd D cy ad L K len M H → va_S (zA ad L s.heap.size) s.heap H locs → lv_has ls 8 [(2, .ref (ad y2)), (3, .long y3), (5, .int y5), (6, .int y6)] → W p l e (headSpec wsX6_crossings ({ frames := 8, cells := 2, slots := 12, locals := 135 } : Room)).room s m args below meth c H locs 2 12 (vx_MQ below (zY D cy ad L K len zvI o Mr s.heap.size) (zX D cy ad L K len o Mr s.heap.size) args s 2 12 (zA ad L s.heap.size)) (F0 m 19 ls [])) (hk31 : ∀ {y2 : Nat} {y3 : Int64} {y5 : Int32} {y6 : Int32} {y7 : Int32} {M : ZM}, kh31 y2 y3 y5 y6 y7 M = some (o, Mr) → ∀ {H : Heap} {locs : List Loc} {ls : Array Slot}, zWd D cy ad L K len M H → va_S (zA ad L s.heap.size) s.heap H locs → lv_has ls 8 [(2, .ref (ad y2)), (3, .long y3), (5, .int y5), (6, .int y6), (7, .int y7)] → W p l e (headSpec wsX6_crossings ({ frames := 8, cells := 2, slots := 12, locals := 135 } : Room)).room s m args below meth c H locs 2 12 (vx_MQ below (zY D cy ad L K len zvI o Mr s.heap.size) (zX D cy ad L K len o Mr s.heap.size) args s 2 12 (zA ad L s.heap.size)) (F0 m 31 ls [])) (h : f_X6_crossings_63 N K len kh19 kh31 x2 x3 x5 x6 x7 M = some (o, Mr)) {H : Heap} {locs : List Loc} {ls : Array Slot} (hW : zWd D cy ad L K len M H) (hS : va_S (zA ad L s.heap.size) s.heap H locs) (hl : lv_has ls 8 [(2, .ref (ad x2)), (3, .long x3), (5, .int x5), (6, .int x6), (7, .int x7)]) : W p l e (headSpec wsX6_crossings ({ frames := 8, cells := 2, slots := 12, locals := 135 } : Room)).room s m args below meth c H locs 2 12 (vx_MQ below (zY D cy ad L K len zvI o Mr s.heap.size) (zX D cy ad L K len o Mr s.heap.size) args s 2 12 (zA ad L s.heap.size)) (F0 m 63 ls []) := by
  obtain ⟨⟨hx, hb, hr, hml, hown, hts, hlocks, hK, hL, hE⟩, hlt, hex⟩ := id C0
  unfold f_X6_crossings_63 at h
  refine lv_iinc (k := 4) (v := (x7 + 1)) (lv' := [(7, .int (x7 + 1)), (2, .ref (ad x2)), (3, .long x3), (5, .int x5), (6, .int x6)]) hx hb dX6_crossings_63 hl rfl (by rw [show Int32.ofInt 1 = (1 : Int32) from by decide]) (by decide) rfl (fun ls hl => ?_)
  refine lv_goto (tgt := 31) hx hb dX6_crossings_66 (by decide) ?_
  exact hk31 h hW hS (lv_sub hl [1, 2, 3, 4, 0] rfl)
def f_X6_crossings_31 (N : Nat) (K len : Nat → Nat) (kh19 : Nat → Int64 → Int32 → Int32 → ZM → Option ((Nat ⊕ Int32) × ZM)) : Nat → Nat → Int64 → Int32 → Int32 → Int32 → ZM → Option ((Nat ⊕ Int32) × ZM)
  | 0, _, _, _, _, _, _ => none
  | n + 1, x2, x3, x5, x6, x7, M =>
    (if x6 ≤ x7 then
    kh19 x2 x3 x5 (x6 + 1) M
    else
    (f_X6_headIn N x3 x6).bind fun q2 => (
    (f_X6_headIn N x3 x7).bind fun q4 => (
    (f_X6_doCross N q2 x6 q4 x7).bind fun q6 => (
    (if q6 = 0 then
    f_X6_crossings_63 N K len kh19 (fun y2 y3 y5 y6 y7 M => f_X6_crossings_31 N K len kh19 n y2 y3 y5 y6 y7 M) x2 x3 x5 x6 x7 M
    else
    f_X6_crossings_63 N K len kh19 (fun y2 y3 y5 y6 y7 M => f_X6_crossings_31 N K len kh19 n y2 y3 y5 y6 y7 M) x2 x3 (x5 + 1) x6 x7 M)))))
set_option maxRecDepth 100000 in
set_option maxHeartbeats 4000000 in
theorem t_X6_crossings_31 {p : Program} {l : Launch} {e : Env} {s : State} {m : MethodId} {args : Array Value} {below : List Frame} {meth : Method} {c : Code} {D : va_G} {cy : Nat → ClassId} {ad : Nat → Nat} {L : List Nat} {K len : Nat → Nat} (C0 : zCxX p l s m c meth args cX6_crossings 8 wsX6_crossings RX6 (some .int) D cy ad L K) (N : Nat) {kh19 : Nat → Int64 → Int32 → Int32 → ZM → Option ((Nat ⊕ Int32) × ZM)} {o : Nat ⊕ Int32} {Mr : ZM} (hk19 : ∀ {y2 : Nat} {y3 : Int64} {y5 : Int32} {y6 : Int32} {M : ZM}, kh19 y2 y3 y5 y6 M = some (o, Mr) → ∀ {H : Heap} {locs : List Loc} {ls : Array Slot}, zWd D cy ad L K len M H → va_S (zA ad L s.heap.size) s.heap H locs → lv_has ls 8 [(2, .ref (ad y2)), (3, .long y3), (5, .int y5), (6, .int y6)] → W p l e (headSpec wsX6_crossings ({ frames := 8, cells := 2, slots := 12, locals := 135 } : Room)).room s m args below meth c H locs 2 12 (vx_MQ below (zY D cy ad L K len zvI o Mr s.heap.size) (zX D cy ad L K len o Mr s.heap.size) args s 2 12 (zA ad L s.heap.size)) (F0 m 19 ls [])) : ∀ (n : Nat) {x2 : Nat} {x3 : Int64} {x5 : Int32} {x6 : Int32} {x7 : Int32} {M : ZM}, f_X6_crossings_31 N K len kh19 n x2 x3 x5 x6 x7 M = some (o, Mr) → ∀ {H : Heap} {locs : List Loc} {ls : Array Slot}, zWd D cy ad L K len M H → va_S (zA ad L s.heap.size) s.heap H locs → lv_has ls 8 [(2, .ref (ad x2)), (3, .long x3), (5, .int x5), (6, .int x6), (7, .int x7)] → W p l e (headSpec wsX6_crossings ({ frames := 8, cells := 2, slots := 12, locals := 135 } : Room)).room s m args below meth c H locs 2 12 (vx_MQ below (zY D cy ad L K len zvI o Mr s.heap.size) (zX D cy ad L K len o Mr s.heap.size) args s 2 12 (zA ad L s.heap.size)) (F0 m 31 ls []) := by
  obtain ⟨⟨hx, hb, hr, hml, hown, hts, hlocks, hK, hL, hE⟩, hlt, hex⟩ := id C0
  intro n
  induction n with
  | zero =>
    intro x2 x3 x5 x6 x7 M h
    cases (show (none : Option ((Nat ⊕ Int32) × ZM)) = some (o, Mr) from h)
  | succ n ih =>
    intro x2 x3 x5 x6 x7 M h H locs ls hW hS hl
    rw [f_X6_crossings_31] at h
    refine lv_iload hx hb dX6_crossings_31 (lv_at hl 4 rfl) ?_
    refine lv_iload hx hb dX6_crossings_33 (lv_at hl 3 rfl) ?_
    refine lv_icmp_ge (tgt := 69) hx hb dX6_crossings_35 (by decide) (fun c1 => ?_) (fun c1 => ?_)
    · have h := zip c1 h
      refine lv_iinc (k := 3) (v := (x6 + 1)) (lv' := [(6, .int (x6 + 1)), (2, .ref (ad x2)), (3, .long x3), (5, .int x5), (7, .int x7)]) hx hb dX6_crossings_69 hl rfl (by rw [show Int32.ofInt 1 = (1 : Int32) from by decide]) (by decide) rfl (fun ls hl => ?_)
      refine lv_goto (tgt := 19) hx hb dX6_crossings_72 (by decide) ?_
      exact hk19 h hW hS (lv_sub hl [1, 2, 3, 0] rfl)
    · have h := zin c1 h
      refine lv_lload_n hx hb dX6_crossings_38 rfl (lv_at hl 1 rfl) ?_
      refine lv_iload hx hb dX6_crossings_39 (lv_at hl 3 rfl) ?_
      obtain ⟨q2, e3, h⟩ := zb_some h
      refine z_calli hS (va_runS (As := [.long x3, .int x6]) (rest := []) ⟨hx, hb, hml, hown, hts⟩ (m_X6_headIn l (M := M) hL N e3 H.size) (va_cwS 2 hts gX6_crossings_X6_headIn rfl rfl rfl (by decide +kernel) ⟨Nat.le_of_ble_eq_true rfl, Nat.le_of_ble_eq_true rfl⟩) (z_preS hK hE hW hS [.long x3, .int x6]) rfl rfl hl.1 rfl (lv_room (Nat.le_of_ble_eq_true rfl)) dX6_crossings_41 ⟨Nat.le_of_ble_eq_true rfl, Nat.le_of_ble_eq_true rfl⟩) (fun H locs hW hS => ?_)
      refine lv_iload hx hb dX6_crossings_44 (lv_at hl 3 rfl) ?_
      refine lv_lload_n hx hb dX6_crossings_46 rfl (lv_at hl 1 rfl) ?_
      refine lv_iload hx hb dX6_crossings_47 (lv_at hl 4 rfl) ?_
      obtain ⟨q4, e5, h⟩ := zb_some h
      refine z_calli hS (va_runS (As := [.long x3, .int x7]) (rest := [.int x6, .int q2]) ⟨hx, hb, hml, hown, hts⟩ (m_X6_headIn l (M := M) hL N e5 H.size) (va_cwS 2 hts gX6_crossings_X6_headIn rfl rfl rfl (by decide +kernel) ⟨Nat.le_of_ble_eq_true rfl, Nat.le_of_ble_eq_true rfl⟩) (z_preS hK hE hW hS [.long x3, .int x7]) rfl rfl hl.1 rfl (lv_room (Nat.le_of_ble_eq_true rfl)) dX6_crossings_49 ⟨Nat.le_of_ble_eq_true rfl, Nat.le_of_ble_eq_true rfl⟩) (fun H locs hW hS => ?_)
      refine lv_iload hx hb dX6_crossings_52 (lv_at hl 4 rfl) ?_
      obtain ⟨q6, e7, h⟩ := zb_some h
      refine z_calli hS (va_runS (As := [.int q2, .int x6, .int q4, .int x7]) (rest := []) ⟨hx, hb, hml, hown, hts⟩ (m_X6_doCross l (M := M) hL N e7 H.size) (va_cwS 4 hts gX6_crossings_X6_doCross rfl rfl rfl (by decide +kernel) ⟨Nat.le_of_ble_eq_true rfl, Nat.le_of_ble_eq_true rfl⟩) (z_preS hK hE hW hS [.int q2, .int x6, .int q4, .int x7]) rfl rfl hl.1 rfl (lv_room (Nat.le_of_ble_eq_true rfl)) dX6_crossings_54 ⟨Nat.le_of_ble_eq_true rfl, Nat.le_of_ble_eq_true rfl⟩) (fun H locs hW hS => ?_)
      refine lv_if_eq (tgt := 63) hx hb dX6_crossings_57 (by decide) (fun c8 => ?_) (fun c8 => ?_)
      · have h := zip c8 h
        exact t_X6_crossings_63 C0 N hk19 (fun h _ _ _ hW hS hl => ih h hW hS hl) h hW hS (lv_sub hl [0, 1, 2, 3, 4] rfl)
      · have h := zin c8 h
        refine lv_iinc (k := 2) (v := (x5 + 1)) (lv' := [(5, .int (x5 + 1)), (2, .ref (ad x2)), (3, .long x3), (6, .int x6), (7, .int x7)]) hx hb dX6_crossings_60 hl rfl (by rw [show Int32.ofInt 1 = (1 : Int32) from by decide]) (by decide) rfl (fun ls hl => ?_)
        exact t_X6_crossings_63 C0 N hk19 (fun h _ _ _ hW hS hl => ih h hW hS hl) h hW hS (lv_sub hl [1, 2, 0, 3, 4] rfl)
def f_X6_crossings_19 (N : Nat) (K len : Nat → Nat) : Nat → Nat → Int64 → Int32 → Int32 → ZM → Option ((Nat ⊕ Int32) × ZM)
  | 0, _, _, _, _, _ => none
  | n + 1, x2, x3, x5, x6, M =>
    (f_X2_size N K len x2 M).bind fun q1 => (
    zg (K x2 == 3) (
    (if q1 < x6 then
    some (Sum.inr x5, M)
    else
    f_X6_crossings_31 N K len (fun y2 y3 y5 y6 M => f_X6_crossings_19 N K len  n y2 y3 y5 y6 M) N x2 x3 x5 x6 (1 : Int32) M)))
set_option maxRecDepth 100000 in
set_option maxHeartbeats 4000000 in
theorem t_X6_crossings_19 {p : Program} {l : Launch} {e : Env} {s : State} {m : MethodId} {args : Array Value} {below : List Frame} {meth : Method} {c : Code} {D : va_G} {cy : Nat → ClassId} {ad : Nat → Nat} {L : List Nat} {K len : Nat → Nat} (C0 : zCxX p l s m c meth args cX6_crossings 8 wsX6_crossings RX6 (some .int) D cy ad L K) (N : Nat) {o : Nat ⊕ Int32} {Mr : ZM} : ∀ (n : Nat) {x2 : Nat} {x3 : Int64} {x5 : Int32} {x6 : Int32} {M : ZM}, f_X6_crossings_19 N K len n x2 x3 x5 x6 M = some (o, Mr) → ∀ {H : Heap} {locs : List Loc} {ls : Array Slot}, zWd D cy ad L K len M H → va_S (zA ad L s.heap.size) s.heap H locs → lv_has ls 8 [(2, .ref (ad x2)), (3, .long x3), (5, .int x5), (6, .int x6)] → W p l e (headSpec wsX6_crossings ({ frames := 8, cells := 2, slots := 12, locals := 135 } : Room)).room s m args below meth c H locs 2 12 (vx_MQ below (zY D cy ad L K len zvI o Mr s.heap.size) (zX D cy ad L K len o Mr s.heap.size) args s 2 12 (zA ad L s.heap.size)) (F0 m 19 ls []) := by
  obtain ⟨⟨hx, hb, hr, hml, hown, hts, hlocks, hK, hL, hE⟩, hlt, hex⟩ := id C0
  intro n
  induction n with
  | zero =>
    intro x2 x3 x5 x6 M h
    cases (show (none : Option ((Nat ⊕ Int32) × ZM)) = some (o, Mr) from h)
  | succ n ih =>
    intro x2 x3 x5 x6 M h H locs ls hW hS hl
    rw [f_X6_crossings_19] at h
    refine lv_iload hx hb dX6_crossings_19 (lv_at hl 3 rfl) ?_
    refine lv_aload_n hx hb dX6_crossings_21 rfl (lv_at hl 0 rfl) ?_
    obtain ⟨q1, e2, h⟩ := zb_some h
    obtain ⟨g3, h⟩ := zg_some h
    refine z_calli hS (va_runV (As := []) (rest := [.int x6]) ⟨hx, hb, hml, hown, hts⟩ (m_X2_size l hL N e2 H.size) (cwV 0 hts gX6_crossings_X2_size rfl rfl rfl (by decide +kernel) ⟨Nat.le_of_ble_eq_true rfl, Nat.le_of_ble_eq_true rfl⟩) (z_preV (q := (RX2, TX2, 4)) hK hL hE hW hS (zK_of g3) (by decide) rfl []) rfl rfl hl.1 rfl (lv_room (Nat.le_of_ble_eq_true rfl)) dX6_crossings_22 ⟨Nat.le_of_ble_eq_true rfl, Nat.le_of_ble_eq_true rfl⟩) (fun H locs hW hS => ?_)
    refine lv_icmp_gt (tgt := 75) hx hb dX6_crossings_25 (by decide) (fun c4 => ?_) (fun c4 => ?_)
    · have h := zip c4 h
      refine lv_iload hx hb dX6_crossings_75 (lv_at hl 2 rfl) ?_
      exact z_xiret hx hb hr hlocks hW hS (congrArg Prod.fst (Option.some.inj h)) (congrArg Prod.snd (Option.some.inj h)) dX6_crossings_77 (Nat.le_of_ble_eq_true rfl) (Nat.le_of_ble_eq_true rfl)
    · have h := zin c4 h
      refine lv_iconst (v := 1) hx hb dX6_crossings_28 (by decide) ?_
      refine lv_istore (lv' := [(7, .int (1 : Int32)), (2, .ref (ad x2)), (3, .long x3), (5, .int x5), (6, .int x6)]) hx hb dX6_crossings_29 hl (by decide) rfl (fun ls hl => ?_)
      exact t_X6_crossings_31 C0 N (fun h _ _ _ hW hS hl => ih h hW hS hl) N h hW hS (lv_sub hl [1, 2, 3, 4, 0] rfl)
def f_X6_crossings_0 (N : Nat) (K len : Nat → Nat) (x0 : Nat) (x1 : Int32) (M : ZM) : Option ((Nat ⊕ Int32) × ZM) :=
zg (K x0 == 7) (
(f_X6_find N K len x0 x1 M).bind fun q1 => (
zx q1 (fun k => some (Sum.inl k, M)) fun r4 => (
zbp (f_X6_bestKey N K len x0 r4 (1 : Int32) M) fun q5 M7 => (
zx q5 (fun k => some (Sum.inl k, M7)) fun r8 => (
f_X6_crossings_19 N K len  N r4 r8 (0 : Int32) (2 : Int32) M7)))))
set_option maxRecDepth 100000 in
set_option maxHeartbeats 4000000 in
theorem t_X6_crossings_0 {p : Program} {l : Launch} {e : Env} {s : State} {m : MethodId} {args : Array Value} {below : List Frame} {meth : Method} {c : Code} {D : va_G} {cy : Nat → ClassId} {ad : Nat → Nat} {L : List Nat} {K len : Nat → Nat} (C0 : zCxX p l s m c meth args cX6_crossings 8 wsX6_crossings RX6 (some .int) D cy ad L K) (N : Nat) {x0 : Nat} {x1 : Int32} {M : ZM} {o : Nat ⊕ Int32} {Mr : ZM} (h : f_X6_crossings_0 N K len x0 x1 M = some (o, Mr)) {H : Heap} {locs : List Loc} {ls : Array Slot} (hW : zWd D cy ad L K len M H) (hS : va_S (zA ad L s.heap.size) s.heap H locs) (hl : lv_has ls 8 [(0, .ref (ad x0)), (1, .int x1)]) : W p l e (headSpec wsX6_crossings ({ frames := 8, cells := 2, slots := 12, locals := 135 } : Room)).room s m args below meth c H locs 0 0 (vx_MQ below (zY D cy ad L K len zvI o Mr s.heap.size) (zX D cy ad L K len o Mr s.heap.size) args s 2 12 (zA ad L s.heap.size)) (F0 m 0 ls []) := by
  obtain ⟨⟨hx, hb, hr, hml, hown, hts, hlocks, hK, hL, hE⟩, hlt, hex⟩ := id C0
  unfold f_X6_crossings_0 at h
  refine lv_aload_n hx hb dX6_crossings_0 rfl (lv_at hl 0 rfl) ?_
  refine lv_iload_n hx hb dX6_crossings_1 rfl (lv_at hl 1 rfl) ?_
  obtain ⟨g3, h⟩ := zg_some h
  obtain ⟨q1, e2, h⟩ := zb_some h
  refine z_xcallr hS (vx_runV (As := [.int x1]) (rest := []) ⟨hx, hb, hml, hown, hts⟩ (m_X6_find l hlt hL N e2 H.size) (cwV 1 hts gX6_crossings_X6_find rfl rfl rfl (by decide +kernel) ⟨Nat.le_of_ble_eq_true rfl, Nat.le_of_ble_eq_true rfl⟩) (z_preV (q := (RX6, TX6, 7)) hK hL hE hW hS (zK_of g3) (by decide) rfl [.int x1]) rfl rfl hl.1 rfl (lv_room (Nat.le_of_ble_eq_true rfl)) dX6_crossings_2 ⟨Nat.le_of_ble_eq_true rfl, Nat.le_of_ble_eq_true rfl⟩) (fun k hk H locs q9 ce hW hS hce hcv hcl => by subst hk; have h := zx_l h; exact z_xout hex hlocks (congrArg Prod.fst (Option.some.inj h)).symm (congrArg Prod.snd (Option.some.inj h)) hW hS hce hcv hcl (Nat.le_of_ble_eq_true rfl) (Nat.le_of_ble_eq_true rfl)) (fun r4 hk H locs hW hS => ?_)
  subst hk
  have h := zx_r h
  refine lv_astore_n (lv' := [(2, .ref (ad r4)), (0, .ref (ad x0)), (1, .int x1)]) hx hb dX6_crossings_5 rfl hl (by decide) rfl (fun ls hl => ?_)
  refine lv_aload_n hx hb dX6_crossings_6 rfl (lv_at hl 1 rfl) ?_
  refine lv_aload_n hx hb dX6_crossings_7 rfl (lv_at hl 0 rfl) ?_
  refine lv_iconst (v := 1) hx hb dX6_crossings_8 (by decide) ?_
  obtain ⟨q5, M7, e6, h⟩ := zbp_some h
  refine z_xcalll hS (vx_runV (As := [.ref (ad r4), .int (1 : Int32)]) (rest := []) ⟨hx, hb, hml, hown, hts⟩ (m_X6_bestKey l hlt hL N e6 H.size) (cwV 2 hts gX6_crossings_X6_bestKey rfl rfl rfl (by decide +kernel) ⟨Nat.le_of_ble_eq_true rfl, Nat.le_of_ble_eq_true rfl⟩) (z_preV (q := (RX6, TX6, 7)) hK hL hE hW hS (zK_of g3) (by decide) rfl [.ref (ad r4), .int (1 : Int32)]) rfl rfl hl.1 rfl (lv_room (Nat.le_of_ble_eq_true rfl)) dX6_crossings_9 ⟨Nat.le_of_ble_eq_true rfl, Nat.le_of_ble_eq_true rfl⟩) (fun k hk H locs q9 ce hW hS hce hcv hcl => by subst hk; have h := zx_l h; exact z_xout hex hlocks (congrArg Prod.fst (Option.some.inj h)).symm (congrArg Prod.snd (Option.some.inj h)) hW hS hce hcv hcl (Nat.le_of_ble_eq_true rfl) (Nat.le_of_ble_eq_true rfl)) (fun r8 hk H locs hW hS => ?_)
  subst hk
  have h := zx_r h
  refine lv_lstore_n (lv' := [(3, .long r8), (2, .ref (ad r4)), (0, .ref (ad x0)), (1, .int x1)]) hx hb dX6_crossings_12 rfl hl (by decide) rfl (fun ls hl => ?_)
  refine lv_iconst (v := 0) hx hb dX6_crossings_13 (by decide) ?_
  refine lv_istore (lv' := [(5, .int (0 : Int32)), (3, .long r8), (2, .ref (ad r4)), (0, .ref (ad x0)), (1, .int x1)]) hx hb dX6_crossings_14 hl (by decide) rfl (fun ls hl => ?_)
  refine lv_iconst (v := 2) hx hb dX6_crossings_16 (by decide) ?_
  refine lv_istore (lv' := [(6, .int (2 : Int32)), (5, .int (0 : Int32)), (3, .long r8), (2, .ref (ad r4)), (0, .ref (ad x0)), (1, .int x1)]) hx hb dX6_crossings_17 hl (by decide) rfl (fun ls hl => ?_)
  exact t_X6_crossings_19 C0 N  N h hW hS (lv_sub hl [3, 2, 1, 0] rfl)
def f_X6_crossings (N : Nat) (K len : Nat → Nat) (a0 : Nat) (a1 : Int32) (M : ZM) : Option ((Nat ⊕ Int32) × ZM) := f_X6_crossings_0 N K len a0 a1 M
set_option maxRecDepth 100000 in
set_option maxHeartbeats 4000000 in
theorem m_X6_crossings (l : Launch) (hlt : l.stackTraces = false) {D : va_G} {cy : Nat → ClassId} {ad : Nat → Nat} {L : List Nat} {K len : Nat → Nat} (hL : zSh ad L K) (N : Nat) {a0 : Nat} {a1 : Int32} {M : ZM} {o : Nat ⊕ Int32} {Mr : ZM} (h : f_X6_crossings N K len a0 a1 M = some (o, Mr)) (sz : Nat) : vx_Met l yX6_crossings wsX6_crossings ({ frames := 8, cells := 2, slots := 12, locals := 135 } : Room) (zPre D cy ad L K len sz [.ref (ad a0), .int a1] M) (zY D cy ad L K len zvI o Mr sz) (zX D cy ad L K len o Mr sz) 2 12 (zA ad L sz) :=
  z_xentry hlt (Qf := fun sz => zY D cy ad L K len zvI o Mr sz) (Xf := fun sz => zX D cy ad L K len o Mr sz) (av := [.ref (ad a0), .int a1]) (by decide) rfl rfl hL (Nat.le_of_ble_eq_true rfl) (fun p e s m args below meth c C0 H locs ls hW hS hl => t_X6_crossings_0 C0 N h hW hS (lv_sub hl [0, 1] rfl))
def f_X6_ranked_0 (N : Nat) (K len : Nat → Nat) (x0 : Nat) (x1 : Int32) (x2 : Int32) (x3 : Int32) (M : ZM) : Option ((Nat ⊕ Int32) × ZM) :=
zg (K x0 == 7) (
(f_X6_find N K len x0 x1 M).bind fun q1 => (
zx q1 (fun k => some (Sum.inl k, M)) fun r4 => (
zbp (f_X6_rankedKey N K len x0 r4 x2 x3 M) fun q5 M7 => (
zx q5 (fun k => some (Sum.inl k, M7)) fun r8 => (
(f_X6_scoreIn N r8).bind fun q9 => (
some (Sum.inr q9, M7)))))))
set_option maxRecDepth 100000 in
set_option maxHeartbeats 4000000 in
theorem t_X6_ranked_0 {p : Program} {l : Launch} {e : Env} {s : State} {m : MethodId} {args : Array Value} {below : List Frame} {meth : Method} {c : Code} {D : va_G} {cy : Nat → ClassId} {ad : Nat → Nat} {L : List Nat} {K len : Nat → Nat} (C0 : zCxX p l s m c meth args cX6_ranked 4 wsX6_ranked RX6 (some .int) D cy ad L K) (N : Nat) {x0 : Nat} {x1 : Int32} {x2 : Int32} {x3 : Int32} {M : ZM} {o : Nat ⊕ Int32} {Mr : ZM} (h : f_X6_ranked_0 N K len x0 x1 x2 x3 M = some (o, Mr)) {H : Heap} {locs : List Loc} {ls : Array Slot} (hW : zWd D cy ad L K len M H) (hS : va_S (zA ad L s.heap.size) s.heap H locs) (hl : lv_has ls 4 [(0, .ref (ad x0)), (1, .int x1), (2, .int x2), (3, .int x3)]) : W p l e (headSpec wsX6_ranked ({ frames := 15, cells := 2, slots := 12, locals := 394 } : Room)).room s m args below meth c H locs 0 0 (vx_MQ below (zY D cy ad L K len zvI o Mr s.heap.size) (zX D cy ad L K len o Mr s.heap.size) args s 2 12 (zA ad L s.heap.size)) (F0 m 0 ls []) := by
  obtain ⟨⟨hx, hb, hr, hml, hown, hts, hlocks, hK, hL, hE⟩, hlt, hex⟩ := id C0
  unfold f_X6_ranked_0 at h
  refine lv_aload_n hx hb dX6_ranked_0 rfl (lv_at hl 0 rfl) ?_
  refine lv_aload_n hx hb dX6_ranked_1 rfl (lv_at hl 0 rfl) ?_
  refine lv_iload_n hx hb dX6_ranked_2 rfl (lv_at hl 1 rfl) ?_
  obtain ⟨g3, h⟩ := zg_some h
  obtain ⟨q1, e2, h⟩ := zb_some h
  refine z_xcallr hS (vx_runV (As := [.int x1]) (rest := [.ref (ad x0)]) ⟨hx, hb, hml, hown, hts⟩ (m_X6_find l hlt hL N e2 H.size) (cwV 1 hts gX6_ranked_X6_find rfl rfl rfl (by decide +kernel) ⟨Nat.le_of_ble_eq_true rfl, Nat.le_of_ble_eq_true rfl⟩) (z_preV (q := (RX6, TX6, 7)) hK hL hE hW hS (zK_of g3) (by decide) rfl [.int x1]) rfl rfl hl.1 rfl (lv_room (Nat.le_of_ble_eq_true rfl)) dX6_ranked_3 ⟨Nat.le_of_ble_eq_true rfl, Nat.le_of_ble_eq_true rfl⟩) (fun k hk H locs q9 ce hW hS hce hcv hcl => by subst hk; have h := zx_l h; exact z_xout hex hlocks (congrArg Prod.fst (Option.some.inj h)).symm (congrArg Prod.snd (Option.some.inj h)) hW hS hce hcv hcl (Nat.le_of_ble_eq_true rfl) (Nat.le_of_ble_eq_true rfl)) (fun r4 hk H locs hW hS => ?_)
  subst hk
  have h := zx_r h
  refine lv_iload_n hx hb dX6_ranked_6 rfl (lv_at hl 2 rfl) ?_
  refine lv_iload_n hx hb dX6_ranked_7 rfl (lv_at hl 3 rfl) ?_
  obtain ⟨q5, M7, e6, h⟩ := zbp_some h
  refine z_xcalll hS (vx_runV (As := [.ref (ad r4), .int x2, .int x3]) (rest := []) ⟨hx, hb, hml, hown, hts⟩ (m_X6_rankedKey l hlt hL N e6 H.size) (cwV 3 hts gX6_ranked_X6_rankedKey rfl rfl rfl (by decide +kernel) ⟨Nat.le_of_ble_eq_true rfl, Nat.le_of_ble_eq_true rfl⟩) (z_preV (q := (RX6, TX6, 7)) hK hL hE hW hS (zK_of g3) (by decide) rfl [.ref (ad r4), .int x2, .int x3]) rfl rfl hl.1 rfl (lv_room (Nat.le_of_ble_eq_true rfl)) dX6_ranked_8 ⟨Nat.le_of_ble_eq_true rfl, Nat.le_of_ble_eq_true rfl⟩) (fun k hk H locs q9 ce hW hS hce hcv hcl => by subst hk; have h := zx_l h; exact z_xout hex hlocks (congrArg Prod.fst (Option.some.inj h)).symm (congrArg Prod.snd (Option.some.inj h)) hW hS hce hcv hcl (Nat.le_of_ble_eq_true rfl) (Nat.le_of_ble_eq_true rfl)) (fun r8 hk H locs hW hS => ?_)
  subst hk
  have h := zx_r h
  obtain ⟨q9, e10, h⟩ := zb_some h
  refine z_calli hS (va_runS (As := [.long r8]) (rest := []) ⟨hx, hb, hml, hown, hts⟩ (m_X6_scoreIn l (M := M7) hL N e10 H.size) (va_cwS 1 hts gX6_ranked_X6_scoreIn rfl rfl rfl (by decide +kernel) ⟨Nat.le_of_ble_eq_true rfl, Nat.le_of_ble_eq_true rfl⟩) (z_preS hK hE hW hS [.long r8]) rfl rfl hl.1 rfl (lv_room (Nat.le_of_ble_eq_true rfl)) dX6_ranked_11 ⟨Nat.le_of_ble_eq_true rfl, Nat.le_of_ble_eq_true rfl⟩) (fun H locs hW hS => ?_)
  exact z_xiret hx hb hr hlocks hW hS (congrArg Prod.fst (Option.some.inj h)) (congrArg Prod.snd (Option.some.inj h)) dX6_ranked_14 (Nat.le_of_ble_eq_true rfl) (Nat.le_of_ble_eq_true rfl)
def f_X6_ranked (N : Nat) (K len : Nat → Nat) (a0 : Nat) (a1 : Int32) (a2 : Int32) (a3 : Int32) (M : ZM) : Option ((Nat ⊕ Int32) × ZM) := f_X6_ranked_0 N K len a0 a1 a2 a3 M
set_option maxRecDepth 100000 in
set_option maxHeartbeats 4000000 in
theorem m_X6_ranked (l : Launch) (hlt : l.stackTraces = false) {D : va_G} {cy : Nat → ClassId} {ad : Nat → Nat} {L : List Nat} {K len : Nat → Nat} (hL : zSh ad L K) (N : Nat) {a0 : Nat} {a1 : Int32} {a2 : Int32} {a3 : Int32} {M : ZM} {o : Nat ⊕ Int32} {Mr : ZM} (h : f_X6_ranked N K len a0 a1 a2 a3 M = some (o, Mr)) (sz : Nat) : vx_Met l yX6_ranked wsX6_ranked ({ frames := 15, cells := 2, slots := 12, locals := 394 } : Room) (zPre D cy ad L K len sz [.ref (ad a0), .int a1, .int a2, .int a3] M) (zY D cy ad L K len zvI o Mr sz) (zX D cy ad L K len o Mr sz) 2 12 (zA ad L sz) :=
  z_xentry hlt (Qf := fun sz => zY D cy ad L K len zvI o Mr sz) (Xf := fun sz => zX D cy ad L K len o Mr sz) (av := [.ref (ad a0), .int a1, .int a2, .int a3]) (by decide) rfl rfl hL (Nat.le_of_ble_eq_true rfl) (fun p e s m args below meth c C0 H locs ls hW hS hl => t_X6_ranked_0 C0 N h hW hS (lv_sub hl [0, 1, 2, 3] rfl))
def f_X6_rankedHead_0 (N : Nat) (K len : Nat → Nat) (x0 : Nat) (x1 : Int32) (x2 : Int32) (x3 : Int32) (x4 : Int32) (M : ZM) : Option ((Nat ⊕ Int32) × ZM) :=
zg (K x0 == 7) (
(f_X6_find N K len x0 x1 M).bind fun q1 => (
zx q1 (fun k => some (Sum.inl k, M)) fun r4 => (
(f_X6_checkWord N K len r4 x4 M).bind fun q5 => (
zx q5 (fun k => some (Sum.inl k, M)) fun r7 => (
zbp (f_X6_rankedKey N K len x0 r4 x2 x3 M) fun q8 M10 => (
zx q8 (fun k => some (Sum.inl k, M10)) fun r11 => (
(f_X6_headIn N r11 x4).bind fun q12 => (
some (Sum.inr q12, M10)))))))))
set_option maxRecDepth 100000 in
set_option maxHeartbeats 4000000 in
theorem t_X6_rankedHead_0 {p : Program} {l : Launch} {e : Env} {s : State} {m : MethodId} {args : Array Value} {below : List Frame} {meth : Method} {c : Code} {D : va_G} {cy : Nat → ClassId} {ad : Nat → Nat} {L : List Nat} {K len : Nat → Nat} (C0 : zCxX p l s m c meth args cX6_rankedHead 6 wsX6_rankedHead RX6 (some .int) D cy ad L K) (N : Nat) {x0 : Nat} {x1 : Int32} {x2 : Int32} {x3 : Int32} {x4 : Int32} {M : ZM} {o : Nat ⊕ Int32} {Mr : ZM} (h : f_X6_rankedHead_0 N K len x0 x1 x2 x3 x4 M = some (o, Mr)) {H : Heap} {locs : List Loc} {ls : Array Slot} (hW : zWd D cy ad L K len M H) (hS : va_S (zA ad L s.heap.size) s.heap H locs) (hl : lv_has ls 6 [(0, .ref (ad x0)), (1, .int x1), (2, .int x2), (3, .int x3), (4, .int x4)]) : W p l e (headSpec wsX6_rankedHead ({ frames := 15, cells := 3, slots := 18, locals := 394 } : Room)).room s m args below meth c H locs 0 0 (vx_MQ below (zY D cy ad L K len zvI o Mr s.heap.size) (zX D cy ad L K len o Mr s.heap.size) args s 3 18 (zA ad L s.heap.size)) (F0 m 0 ls []) := by
  obtain ⟨⟨hx, hb, hr, hml, hown, hts, hlocks, hK, hL, hE⟩, hlt, hex⟩ := id C0
  unfold f_X6_rankedHead_0 at h
  refine lv_aload_n hx hb dX6_rankedHead_0 rfl (lv_at hl 0 rfl) ?_
  refine lv_iload_n hx hb dX6_rankedHead_1 rfl (lv_at hl 1 rfl) ?_
  obtain ⟨g3, h⟩ := zg_some h
  obtain ⟨q1, e2, h⟩ := zb_some h
  refine z_xcallr hS (vx_runV (As := [.int x1]) (rest := []) ⟨hx, hb, hml, hown, hts⟩ (m_X6_find l hlt hL N e2 H.size) (cwV 1 hts gX6_rankedHead_X6_find rfl rfl rfl (by decide +kernel) ⟨Nat.le_of_ble_eq_true rfl, Nat.le_of_ble_eq_true rfl⟩) (z_preV (q := (RX6, TX6, 7)) hK hL hE hW hS (zK_of g3) (by decide) rfl [.int x1]) rfl rfl hl.1 rfl (lv_room (Nat.le_of_ble_eq_true rfl)) dX6_rankedHead_2 ⟨Nat.le_of_ble_eq_true rfl, Nat.le_of_ble_eq_true rfl⟩) (fun k hk H locs q9 ce hW hS hce hcv hcl => by subst hk; have h := zx_l h; exact z_xout hex hlocks (congrArg Prod.fst (Option.some.inj h)).symm (congrArg Prod.snd (Option.some.inj h)) hW hS hce hcv hcl (Nat.le_of_ble_eq_true rfl) (Nat.le_of_ble_eq_true rfl)) (fun r4 hk H locs hW hS => ?_)
  subst hk
  have h := zx_r h
  refine lv_astore (lv' := [(5, .ref (ad r4)), (0, .ref (ad x0)), (1, .int x1), (2, .int x2), (3, .int x3), (4, .int x4)]) hx hb dX6_rankedHead_5 hl (by decide) rfl (fun ls hl => ?_)
  refine lv_aload hx hb dX6_rankedHead_7 (lv_at hl 0 rfl) ?_
  refine lv_iload hx hb dX6_rankedHead_9 (lv_at hl 5 rfl) ?_
  obtain ⟨q5, e6, h⟩ := zb_some h
  refine z_xcallv hS (vx_runS (As := [.ref (ad r4), .int x4]) (rest := []) ⟨hx, hb, hml, hown, hts⟩ (m_X6_checkWord l hlt hL N e6 H.size) (va_cwS 2 hts gX6_rankedHead_X6_checkWord rfl rfl rfl (by decide +kernel) ⟨Nat.le_of_ble_eq_true rfl, Nat.le_of_ble_eq_true rfl⟩) (z_preS hK hE hW hS [.ref (ad r4), .int x4]) rfl rfl hl.1 rfl (lv_room (Nat.le_of_ble_eq_true rfl)) dX6_rankedHead_11 ⟨Nat.le_of_ble_eq_true rfl, Nat.le_of_ble_eq_true rfl⟩) (fun k hk H locs q9 ce hW hS hce hcv hcl => by subst hk; have h := zx_l h; exact z_xout hex hlocks (congrArg Prod.fst (Option.some.inj h)).symm (congrArg Prod.snd (Option.some.inj h)) hW hS hce hcv hcl (Nat.le_of_ble_eq_true rfl) (Nat.le_of_ble_eq_true rfl)) (fun r7 hk H locs hW hS => ?_)
  subst hk
  have h := zx_r h
  refine lv_aload_n hx hb dX6_rankedHead_14 rfl (lv_at hl 1 rfl) ?_
  refine lv_aload hx hb dX6_rankedHead_15 (lv_at hl 0 rfl) ?_
  refine lv_iload_n hx hb dX6_rankedHead_17 rfl (lv_at hl 3 rfl) ?_
  refine lv_iload_n hx hb dX6_rankedHead_18 rfl (lv_at hl 4 rfl) ?_
  obtain ⟨q8, M10, e9, h⟩ := zbp_some h
  refine z_xcalll hS (vx_runV (As := [.ref (ad r4), .int x2, .int x3]) (rest := []) ⟨hx, hb, hml, hown, hts⟩ (m_X6_rankedKey l hlt hL N e9 H.size) (cwV 3 hts gX6_rankedHead_X6_rankedKey rfl rfl rfl (by decide +kernel) ⟨Nat.le_of_ble_eq_true rfl, Nat.le_of_ble_eq_true rfl⟩) (z_preV (q := (RX6, TX6, 7)) hK hL hE hW hS (zK_of g3) (by decide) rfl [.ref (ad r4), .int x2, .int x3]) rfl rfl hl.1 rfl (lv_room (Nat.le_of_ble_eq_true rfl)) dX6_rankedHead_19 ⟨Nat.le_of_ble_eq_true rfl, Nat.le_of_ble_eq_true rfl⟩) (fun k hk H locs q9 ce hW hS hce hcv hcl => by subst hk; have h := zx_l h; exact z_xout hex hlocks (congrArg Prod.fst (Option.some.inj h)).symm (congrArg Prod.snd (Option.some.inj h)) hW hS hce hcv hcl (Nat.le_of_ble_eq_true rfl) (Nat.le_of_ble_eq_true rfl)) (fun r11 hk H locs hW hS => ?_)
  subst hk
  have h := zx_r h
  refine lv_iload hx hb dX6_rankedHead_22 (lv_at hl 5 rfl) ?_
  obtain ⟨q12, e13, h⟩ := zb_some h
  refine z_calli hS (va_runS (As := [.long r11, .int x4]) (rest := []) ⟨hx, hb, hml, hown, hts⟩ (m_X6_headIn l (M := M10) hL N e13 H.size) (va_cwS 2 hts gX6_rankedHead_X6_headIn rfl rfl rfl (by decide +kernel) ⟨Nat.le_of_ble_eq_true rfl, Nat.le_of_ble_eq_true rfl⟩) (z_preS hK hE hW hS [.long r11, .int x4]) rfl rfl hl.1 rfl (lv_room (Nat.le_of_ble_eq_true rfl)) dX6_rankedHead_24 ⟨Nat.le_of_ble_eq_true rfl, Nat.le_of_ble_eq_true rfl⟩) (fun H locs hW hS => ?_)
  exact z_xiret hx hb hr hlocks hW hS (congrArg Prod.fst (Option.some.inj h)) (congrArg Prod.snd (Option.some.inj h)) dX6_rankedHead_27 (Nat.le_of_ble_eq_true rfl) (Nat.le_of_ble_eq_true rfl)
def f_X6_rankedHead (N : Nat) (K len : Nat → Nat) (a0 : Nat) (a1 : Int32) (a2 : Int32) (a3 : Int32) (a4 : Int32) (M : ZM) : Option ((Nat ⊕ Int32) × ZM) := f_X6_rankedHead_0 N K len a0 a1 a2 a3 a4 M
set_option maxRecDepth 100000 in
set_option maxHeartbeats 4000000 in
theorem m_X6_rankedHead (l : Launch) (hlt : l.stackTraces = false) {D : va_G} {cy : Nat → ClassId} {ad : Nat → Nat} {L : List Nat} {K len : Nat → Nat} (hL : zSh ad L K) (N : Nat) {a0 : Nat} {a1 : Int32} {a2 : Int32} {a3 : Int32} {a4 : Int32} {M : ZM} {o : Nat ⊕ Int32} {Mr : ZM} (h : f_X6_rankedHead N K len a0 a1 a2 a3 a4 M = some (o, Mr)) (sz : Nat) : vx_Met l yX6_rankedHead wsX6_rankedHead ({ frames := 15, cells := 3, slots := 18, locals := 394 } : Room) (zPre D cy ad L K len sz [.ref (ad a0), .int a1, .int a2, .int a3, .int a4] M) (zY D cy ad L K len zvI o Mr sz) (zX D cy ad L K len o Mr sz) 3 18 (zA ad L sz) :=
  z_xentry hlt (Qf := fun sz => zY D cy ad L K len zvI o Mr sz) (Xf := fun sz => zX D cy ad L K len o Mr sz) (av := [.ref (ad a0), .int a1, .int a2, .int a3, .int a4]) (by decide) rfl rfl hL (Nat.le_of_ble_eq_true rfl) (fun p e s m args below meth c C0 H locs ls hW hS hl => t_X6_rankedHead_0 C0 N h hW hS (lv_sub hl [0, 1, 2, 3, 4] rfl))
def f_X6_correct_0 (N : Nat) (K len : Nat → Nat) (x0 : Nat) (x1 : Int32) (x2 : Int32) (x3 : Int32) (M : ZM) : Option ((Nat ⊕ Int32) × ZM) :=
zg (K x0 == 7) (
(f_X6_find N K len x0 x1 M).bind fun q1 => (
zx q1 (fun k => some (Sum.inl k, M)) fun r4 => (
(f_X6_checkArc N K len r4 x2 x3 M).bind fun q5 => (
zx q5 (fun k => some (Sum.inl k, M)) fun r7 => (
zbp (f_X2_changeRightHead N K len r4 x2 x3 M) fun q8 M10 => (
zg (K r4 == 3) (
some (Sum.inr q8, M10))))))))
set_option maxRecDepth 100000 in
set_option maxHeartbeats 4000000 in
theorem t_X6_correct_0 {p : Program} {l : Launch} {e : Env} {s : State} {m : MethodId} {args : Array Value} {below : List Frame} {meth : Method} {c : Code} {D : va_G} {cy : Nat → ClassId} {ad : Nat → Nat} {L : List Nat} {K len : Nat → Nat} (C0 : zCxX p l s m c meth args cX6_correct 5 wsX6_correct RX6 (some .int) D cy ad L K) (N : Nat) {x0 : Nat} {x1 : Int32} {x2 : Int32} {x3 : Int32} {M : ZM} {o : Nat ⊕ Int32} {Mr : ZM} (h : f_X6_correct_0 N K len x0 x1 x2 x3 M = some (o, Mr)) {H : Heap} {locs : List Loc} {ls : Array Slot} (hW : zWd D cy ad L K len M H) (hS : va_S (zA ad L s.heap.size) s.heap H locs) (hl : lv_has ls 5 [(0, .ref (ad x0)), (1, .int x1), (2, .int x2), (3, .int x3)]) : W p l e (headSpec wsX6_correct ({ frames := 8, cells := 3, slots := 18, locals := 133 } : Room)).room s m args below meth c H locs 0 0 (vx_MQ below (zY D cy ad L K len zvI o Mr s.heap.size) (zX D cy ad L K len o Mr s.heap.size) args s 3 18 (zA ad L s.heap.size)) (F0 m 0 ls []) := by
  obtain ⟨⟨hx, hb, hr, hml, hown, hts, hlocks, hK, hL, hE⟩, hlt, hex⟩ := id C0
  unfold f_X6_correct_0 at h
  refine lv_aload_n hx hb dX6_correct_0 rfl (lv_at hl 0 rfl) ?_
  refine lv_iload_n hx hb dX6_correct_1 rfl (lv_at hl 1 rfl) ?_
  obtain ⟨g3, h⟩ := zg_some h
  obtain ⟨q1, e2, h⟩ := zb_some h
  refine z_xcallr hS (vx_runV (As := [.int x1]) (rest := []) ⟨hx, hb, hml, hown, hts⟩ (m_X6_find l hlt hL N e2 H.size) (cwV 1 hts gX6_correct_X6_find rfl rfl rfl (by decide +kernel) ⟨Nat.le_of_ble_eq_true rfl, Nat.le_of_ble_eq_true rfl⟩) (z_preV (q := (RX6, TX6, 7)) hK hL hE hW hS (zK_of g3) (by decide) rfl [.int x1]) rfl rfl hl.1 rfl (lv_room (Nat.le_of_ble_eq_true rfl)) dX6_correct_2 ⟨Nat.le_of_ble_eq_true rfl, Nat.le_of_ble_eq_true rfl⟩) (fun k hk H locs q9 ce hW hS hce hcv hcl => by subst hk; have h := zx_l h; exact z_xout hex hlocks (congrArg Prod.fst (Option.some.inj h)).symm (congrArg Prod.snd (Option.some.inj h)) hW hS hce hcv hcl (Nat.le_of_ble_eq_true rfl) (Nat.le_of_ble_eq_true rfl)) (fun r4 hk H locs hW hS => ?_)
  subst hk
  have h := zx_r h
  refine lv_astore (lv' := [(4, .ref (ad r4)), (0, .ref (ad x0)), (1, .int x1), (2, .int x2), (3, .int x3)]) hx hb dX6_correct_5 hl (by decide) rfl (fun ls hl => ?_)
  refine lv_aload hx hb dX6_correct_7 (lv_at hl 0 rfl) ?_
  refine lv_iload_n hx hb dX6_correct_9 rfl (lv_at hl 3 rfl) ?_
  refine lv_iload_n hx hb dX6_correct_10 rfl (lv_at hl 4 rfl) ?_
  obtain ⟨q5, e6, h⟩ := zb_some h
  refine z_xcallv hS (vx_runS (As := [.ref (ad r4), .int x2, .int x3]) (rest := []) ⟨hx, hb, hml, hown, hts⟩ (m_X6_checkArc l hlt hL N e6 H.size) (va_cwS 3 hts gX6_correct_X6_checkArc rfl rfl rfl (by decide +kernel) ⟨Nat.le_of_ble_eq_true rfl, Nat.le_of_ble_eq_true rfl⟩) (z_preS hK hE hW hS [.ref (ad r4), .int x2, .int x3]) rfl rfl hl.1 rfl (lv_room (Nat.le_of_ble_eq_true rfl)) dX6_correct_11 ⟨Nat.le_of_ble_eq_true rfl, Nat.le_of_ble_eq_true rfl⟩) (fun k hk H locs q9 ce hW hS hce hcv hcl => by subst hk; have h := zx_l h; exact z_xout hex hlocks (congrArg Prod.fst (Option.some.inj h)).symm (congrArg Prod.snd (Option.some.inj h)) hW hS hce hcv hcl (Nat.le_of_ble_eq_true rfl) (Nat.le_of_ble_eq_true rfl)) (fun r7 hk H locs hW hS => ?_)
  subst hk
  have h := zx_r h
  refine lv_aload hx hb dX6_correct_14 (lv_at hl 0 rfl) ?_
  refine lv_iload_n hx hb dX6_correct_16 rfl (lv_at hl 3 rfl) ?_
  refine lv_iload_n hx hb dX6_correct_17 rfl (lv_at hl 4 rfl) ?_
  obtain ⟨q8, M10, e9, h⟩ := zbp_some h
  obtain ⟨g11, h⟩ := zg_some h
  refine z_calli hS (va_runV (As := [.int x2, .int x3]) (rest := []) ⟨hx, hb, hml, hown, hts⟩ (m_X2_changeRightHead l hL N e9 H.size) (cwV 2 hts gX6_correct_X2_changeRightHead rfl rfl rfl (by decide +kernel) ⟨Nat.le_of_ble_eq_true rfl, Nat.le_of_ble_eq_true rfl⟩) (z_preV (q := (RX2, TX2, 4)) hK hL hE hW hS (zK_of g11) (by decide) rfl [.int x2, .int x3]) rfl rfl hl.1 rfl (lv_room (Nat.le_of_ble_eq_true rfl)) dX6_correct_18 ⟨Nat.le_of_ble_eq_true rfl, Nat.le_of_ble_eq_true rfl⟩) (fun H locs hW hS => ?_)
  exact z_xiret hx hb hr hlocks hW hS (congrArg Prod.fst (Option.some.inj h)) (congrArg Prod.snd (Option.some.inj h)) dX6_correct_21 (Nat.le_of_ble_eq_true rfl) (Nat.le_of_ble_eq_true rfl)
def f_X6_correct (N : Nat) (K len : Nat → Nat) (a0 : Nat) (a1 : Int32) (a2 : Int32) (a3 : Int32) (M : ZM) : Option ((Nat ⊕ Int32) × ZM) := f_X6_correct_0 N K len a0 a1 a2 a3 M
set_option maxRecDepth 100000 in
set_option maxHeartbeats 4000000 in
theorem m_X6_correct (l : Launch) (hlt : l.stackTraces = false) {D : va_G} {cy : Nat → ClassId} {ad : Nat → Nat} {L : List Nat} {K len : Nat → Nat} (hL : zSh ad L K) (N : Nat) {a0 : Nat} {a1 : Int32} {a2 : Int32} {a3 : Int32} {M : ZM} {o : Nat ⊕ Int32} {Mr : ZM} (h : f_X6_correct N K len a0 a1 a2 a3 M = some (o, Mr)) (sz : Nat) : vx_Met l yX6_correct wsX6_correct ({ frames := 8, cells := 3, slots := 18, locals := 133 } : Room) (zPre D cy ad L K len sz [.ref (ad a0), .int a1, .int a2, .int a3] M) (zY D cy ad L K len zvI o Mr sz) (zX D cy ad L K len o Mr sz) 3 18 (zA ad L sz) :=
  z_xentry hlt (Qf := fun sz => zY D cy ad L K len zvI o Mr sz) (Xf := fun sz => zX D cy ad L K len o Mr sz) (av := [.ref (ad a0), .int a1, .int a2, .int a3]) (by decide) rfl rfl hL (Nat.le_of_ble_eq_true rfl) (fun p e s m args below meth c C0 H locs ls hW hS hl => t_X6_correct_0 C0 N h hW hS (lv_sub hl [0, 1, 2, 3] rfl))
def f_X6_matched_46 (N : Nat) (K len : Nat → Nat) (kh19 : Nat → Int64 → Int32 → Int32 → ZM → Option ((Nat ⊕ Int32) × ZM)) (x2 : Nat) (x3 : Int64) (x5 : Int32) (x6 : Int32) (M : ZM) : Option ((Nat ⊕ Int32) × ZM) :=
kh19 x2 x3 x5 (x6 + 1) M
set_option maxRecDepth 100000 in
set_option maxHeartbeats 4000000 in
theorem t_X6_matched_46 {p : Program} {l : Launch} {e : Env} {s : State} {m : MethodId} {args : Array Value} {below : List Frame} {meth : Method} {c : Code} {D : va_G} {cy : Nat → ClassId} {ad : Nat → Nat} {L : List Nat} {K len : Nat → Nat} (C0 : zCxX p l s m c meth args cX6_matched 7 wsX6_matched RX6 (some .int) D cy ad L K) (N : Nat) {kh19 : Nat → Int64 → Int32 → Int32 → ZM → Option ((Nat ⊕ Int32) × ZM)} {x2 : Nat} {x3 : Int64} {x5 : Int32} {x6 : Int32} {M : ZM} {o : Nat ⊕ Int32} {Mr : ZM} (hk19 : ∀ {y2 : Nat} {y3 : Int64} {y5 : Int32} {y6 : Int32} {M : ZM}, kh19 y2 y3 y5 y6 M = some (o, Mr) → ∀ {H : Heap} {locs : List Loc} {ls : Array Slot}, zWd D cy ad L K len M H → va_S (zA ad L s.heap.size) s.heap H locs → lv_has ls 7 [(2, .ref (ad y2)), (3, .long y3), (5, .int y5), (6, .int y6)] → W p l e (headSpec wsX6_matched ({ frames := 8, cells := 2, slots := 12, locals := 135 } : Room)).room s m args below meth c H locs 2 12 (vx_MQ below (zY D cy ad L K len zvI o Mr s.heap.size) (zX D cy ad L K len o Mr s.heap.size) args s 2 12 (zA ad L s.heap.size)) (F0 m 19 ls [])) (h : f_X6_matched_46 N K len kh19 x2 x3 x5 x6 M = some (o, Mr)) {H : Heap} {locs : List Loc} {ls : Array Slot} (hW : zWd D cy ad L K len M H) (hS : va_S (zA ad L s.heap.size) s.heap H locs) (hl : lv_has ls 7 [(2, .ref (ad x2)), (3, .long x3), (5, .int x5), (6, .int x6)]) : W p l e (headSpec wsX6_matched ({ frames := 8, cells := 2, slots := 12, locals := 135 } : Room)).room s m args below meth c H locs 2 12 (vx_MQ below (zY D cy ad L K len zvI o Mr s.heap.size) (zX D cy ad L K len o Mr s.heap.size) args s 2 12 (zA ad L s.heap.size)) (F0 m 46 ls []) := by
  obtain ⟨⟨hx, hb, hr, hml, hown, hts, hlocks, hK, hL, hE⟩, hlt, hex⟩ := id C0
  unfold f_X6_matched_46 at h
  refine lv_iinc (k := 3) (v := (x6 + 1)) (lv' := [(6, .int (x6 + 1)), (2, .ref (ad x2)), (3, .long x3), (5, .int x5)]) hx hb dX6_matched_46 hl rfl (by rw [show Int32.ofInt 1 = (1 : Int32) from by decide]) (by decide) rfl (fun ls hl => ?_)
  refine lv_goto (tgt := 19) hx hb dX6_matched_49 (by decide) ?_
  exact hk19 h hW hS (lv_sub hl [1, 2, 3, 0] rfl)
def f_X6_matched_19 (N : Nat) (K len : Nat → Nat) : Nat → Nat → Int64 → Int32 → Int32 → ZM → Option ((Nat ⊕ Int32) × ZM)
  | 0, _, _, _, _, _ => none
  | n + 1, x2, x3, x5, x6, M =>
    (f_X2_size N K len x2 M).bind fun q1 => (
    zg (K x2 == 3) (
    (if q1 < x6 then
    some (Sum.inr x5, M)
    else
    (f_X2_rightHead N K len x2 x6 M).bind fun q5 => (
    (f_X6_headIn N x3 x6).bind fun q7 => (
    (if q5 = q7 then
    f_X6_matched_46 N K len (fun y2 y3 y5 y6 M => f_X6_matched_19 N K len  n y2 y3 y5 y6 M) x2 x3 (x5 + 1) x6 M
    else
    f_X6_matched_46 N K len (fun y2 y3 y5 y6 M => f_X6_matched_19 N K len  n y2 y3 y5 y6 M) x2 x3 x5 x6 M))))))
set_option maxRecDepth 100000 in
set_option maxHeartbeats 4000000 in
theorem t_X6_matched_19 {p : Program} {l : Launch} {e : Env} {s : State} {m : MethodId} {args : Array Value} {below : List Frame} {meth : Method} {c : Code} {D : va_G} {cy : Nat → ClassId} {ad : Nat → Nat} {L : List Nat} {K len : Nat → Nat} (C0 : zCxX p l s m c meth args cX6_matched 7 wsX6_matched RX6 (some .int) D cy ad L K) (N : Nat) {o : Nat ⊕ Int32} {Mr : ZM} : ∀ (n : Nat) {x2 : Nat} {x3 : Int64} {x5 : Int32} {x6 : Int32} {M : ZM}, f_X6_matched_19 N K len n x2 x3 x5 x6 M = some (o, Mr) → ∀ {H : Heap} {locs : List Loc} {ls : Array Slot}, zWd D cy ad L K len M H → va_S (zA ad L s.heap.size) s.heap H locs → lv_has ls 7 [(2, .ref (ad x2)), (3, .long x3), (5, .int x5), (6, .int x6)] → W p l e (headSpec wsX6_matched ({ frames := 8, cells := 2, slots := 12, locals := 135 } : Room)).room s m args below meth c H locs 2 12 (vx_MQ below (zY D cy ad L K len zvI o Mr s.heap.size) (zX D cy ad L K len o Mr s.heap.size) args s 2 12 (zA ad L s.heap.size)) (F0 m 19 ls []) := by
  obtain ⟨⟨hx, hb, hr, hml, hown, hts, hlocks, hK, hL, hE⟩, hlt, hex⟩ := id C0
  intro n
  induction n with
  | zero =>
    intro x2 x3 x5 x6 M h
    cases (show (none : Option ((Nat ⊕ Int32) × ZM)) = some (o, Mr) from h)
  | succ n ih =>
    intro x2 x3 x5 x6 M h H locs ls hW hS hl
    rw [f_X6_matched_19] at h
    refine lv_iload hx hb dX6_matched_19 (lv_at hl 3 rfl) ?_
    refine lv_aload_n hx hb dX6_matched_21 rfl (lv_at hl 0 rfl) ?_
    obtain ⟨q1, e2, h⟩ := zb_some h
    obtain ⟨g3, h⟩ := zg_some h
    refine z_calli hS (va_runV (As := []) (rest := [.int x6]) ⟨hx, hb, hml, hown, hts⟩ (m_X2_size l hL N e2 H.size) (cwV 0 hts gX6_matched_X2_size rfl rfl rfl (by decide +kernel) ⟨Nat.le_of_ble_eq_true rfl, Nat.le_of_ble_eq_true rfl⟩) (z_preV (q := (RX2, TX2, 4)) hK hL hE hW hS (zK_of g3) (by decide) rfl []) rfl rfl hl.1 rfl (lv_room (Nat.le_of_ble_eq_true rfl)) dX6_matched_22 ⟨Nat.le_of_ble_eq_true rfl, Nat.le_of_ble_eq_true rfl⟩) (fun H locs hW hS => ?_)
    refine lv_icmp_gt (tgt := 52) hx hb dX6_matched_25 (by decide) (fun c4 => ?_) (fun c4 => ?_)
    · have h := zip c4 h
      refine lv_iload hx hb dX6_matched_52 (lv_at hl 2 rfl) ?_
      exact z_xiret hx hb hr hlocks hW hS (congrArg Prod.fst (Option.some.inj h)) (congrArg Prod.snd (Option.some.inj h)) dX6_matched_54 (Nat.le_of_ble_eq_true rfl) (Nat.le_of_ble_eq_true rfl)
    · have h := zin c4 h
      refine lv_aload_n hx hb dX6_matched_28 rfl (lv_at hl 0 rfl) ?_
      refine lv_iload hx hb dX6_matched_29 (lv_at hl 3 rfl) ?_
      obtain ⟨q5, e6, h⟩ := zb_some h
      refine z_calli hS (va_runV (As := [.int x6]) (rest := []) ⟨hx, hb, hml, hown, hts⟩ (m_X2_rightHead l hL N e6 H.size) (cwV 1 hts gX6_matched_X2_rightHead rfl rfl rfl (by decide +kernel) ⟨Nat.le_of_ble_eq_true rfl, Nat.le_of_ble_eq_true rfl⟩) (z_preV (q := (RX2, TX2, 4)) hK hL hE hW hS (zK_of g3) (by decide) rfl [.int x6]) rfl rfl hl.1 rfl (lv_room (Nat.le_of_ble_eq_true rfl)) dX6_matched_31 ⟨Nat.le_of_ble_eq_true rfl, Nat.le_of_ble_eq_true rfl⟩) (fun H locs hW hS => ?_)
      refine lv_lload_n hx hb dX6_matched_34 rfl (lv_at hl 1 rfl) ?_
      refine lv_iload hx hb dX6_matched_35 (lv_at hl 3 rfl) ?_
      obtain ⟨q7, e8, h⟩ := zb_some h
      refine z_calli hS (va_runS (As := [.long x3, .int x6]) (rest := [.int q5]) ⟨hx, hb, hml, hown, hts⟩ (m_X6_headIn l (M := M) hL N e8 H.size) (va_cwS 2 hts gX6_matched_X6_headIn rfl rfl rfl (by decide +kernel) ⟨Nat.le_of_ble_eq_true rfl, Nat.le_of_ble_eq_true rfl⟩) (z_preS hK hE hW hS [.long x3, .int x6]) rfl rfl hl.1 rfl (lv_room (Nat.le_of_ble_eq_true rfl)) dX6_matched_37 ⟨Nat.le_of_ble_eq_true rfl, Nat.le_of_ble_eq_true rfl⟩) (fun H locs hW hS => ?_)
      refine lv_icmp_ne (tgt := 46) hx hb dX6_matched_40 (by decide) (fun c9 => ?_) (fun c9 => ?_)
      · have h := zin c9 h
        exact t_X6_matched_46 C0 N (fun h _ _ _ hW hS hl => ih h hW hS hl) h hW hS (lv_sub hl [0, 1, 2, 3] rfl)
      · have h := zip c9 h
        refine lv_iinc (k := 2) (v := (x5 + 1)) (lv' := [(5, .int (x5 + 1)), (2, .ref (ad x2)), (3, .long x3), (6, .int x6)]) hx hb dX6_matched_43 hl rfl (by rw [show Int32.ofInt 1 = (1 : Int32) from by decide]) (by decide) rfl (fun ls hl => ?_)
        exact t_X6_matched_46 C0 N (fun h _ _ _ hW hS hl => ih h hW hS hl) h hW hS (lv_sub hl [1, 2, 0, 3] rfl)
def f_X6_matched_0 (N : Nat) (K len : Nat → Nat) (x0 : Nat) (x1 : Int32) (M : ZM) : Option ((Nat ⊕ Int32) × ZM) :=
zg (K x0 == 7) (
(f_X6_find N K len x0 x1 M).bind fun q1 => (
zx q1 (fun k => some (Sum.inl k, M)) fun r4 => (
zbp (f_X6_bestKey N K len x0 r4 (1 : Int32) M) fun q5 M7 => (
zx q5 (fun k => some (Sum.inl k, M7)) fun r8 => (
f_X6_matched_19 N K len  N r4 r8 (0 : Int32) (1 : Int32) M7)))))
set_option maxRecDepth 100000 in
set_option maxHeartbeats 4000000 in
theorem t_X6_matched_0 {p : Program} {l : Launch} {e : Env} {s : State} {m : MethodId} {args : Array Value} {below : List Frame} {meth : Method} {c : Code} {D : va_G} {cy : Nat → ClassId} {ad : Nat → Nat} {L : List Nat} {K len : Nat → Nat} (C0 : zCxX p l s m c meth args cX6_matched 7 wsX6_matched RX6 (some .int) D cy ad L K) (N : Nat) {x0 : Nat} {x1 : Int32} {M : ZM} {o : Nat ⊕ Int32} {Mr : ZM} (h : f_X6_matched_0 N K len x0 x1 M = some (o, Mr)) {H : Heap} {locs : List Loc} {ls : Array Slot} (hW : zWd D cy ad L K len M H) (hS : va_S (zA ad L s.heap.size) s.heap H locs) (hl : lv_has ls 7 [(0, .ref (ad x0)), (1, .int x1)]) : W p l e (headSpec wsX6_matched ({ frames := 8, cells := 2, slots := 12, locals := 135 } : Room)).room s m args below meth c H locs 0 0 (vx_MQ below (zY D cy ad L K len zvI o Mr s.heap.size) (zX D cy ad L K len o Mr s.heap.size) args s 2 12 (zA ad L s.heap.size)) (F0 m 0 ls []) := by
  obtain ⟨⟨hx, hb, hr, hml, hown, hts, hlocks, hK, hL, hE⟩, hlt, hex⟩ := id C0
  unfold f_X6_matched_0 at h
  refine lv_aload_n hx hb dX6_matched_0 rfl (lv_at hl 0 rfl) ?_
  refine lv_iload_n hx hb dX6_matched_1 rfl (lv_at hl 1 rfl) ?_
  obtain ⟨g3, h⟩ := zg_some h
  obtain ⟨q1, e2, h⟩ := zb_some h
  refine z_xcallr hS (vx_runV (As := [.int x1]) (rest := []) ⟨hx, hb, hml, hown, hts⟩ (m_X6_find l hlt hL N e2 H.size) (cwV 1 hts gX6_matched_X6_find rfl rfl rfl (by decide +kernel) ⟨Nat.le_of_ble_eq_true rfl, Nat.le_of_ble_eq_true rfl⟩) (z_preV (q := (RX6, TX6, 7)) hK hL hE hW hS (zK_of g3) (by decide) rfl [.int x1]) rfl rfl hl.1 rfl (lv_room (Nat.le_of_ble_eq_true rfl)) dX6_matched_2 ⟨Nat.le_of_ble_eq_true rfl, Nat.le_of_ble_eq_true rfl⟩) (fun k hk H locs q9 ce hW hS hce hcv hcl => by subst hk; have h := zx_l h; exact z_xout hex hlocks (congrArg Prod.fst (Option.some.inj h)).symm (congrArg Prod.snd (Option.some.inj h)) hW hS hce hcv hcl (Nat.le_of_ble_eq_true rfl) (Nat.le_of_ble_eq_true rfl)) (fun r4 hk H locs hW hS => ?_)
  subst hk
  have h := zx_r h
  refine lv_astore_n (lv' := [(2, .ref (ad r4)), (0, .ref (ad x0)), (1, .int x1)]) hx hb dX6_matched_5 rfl hl (by decide) rfl (fun ls hl => ?_)
  refine lv_aload_n hx hb dX6_matched_6 rfl (lv_at hl 1 rfl) ?_
  refine lv_aload_n hx hb dX6_matched_7 rfl (lv_at hl 0 rfl) ?_
  refine lv_iconst (v := 1) hx hb dX6_matched_8 (by decide) ?_
  obtain ⟨q5, M7, e6, h⟩ := zbp_some h
  refine z_xcalll hS (vx_runV (As := [.ref (ad r4), .int (1 : Int32)]) (rest := []) ⟨hx, hb, hml, hown, hts⟩ (m_X6_bestKey l hlt hL N e6 H.size) (cwV 2 hts gX6_matched_X6_bestKey rfl rfl rfl (by decide +kernel) ⟨Nat.le_of_ble_eq_true rfl, Nat.le_of_ble_eq_true rfl⟩) (z_preV (q := (RX6, TX6, 7)) hK hL hE hW hS (zK_of g3) (by decide) rfl [.ref (ad r4), .int (1 : Int32)]) rfl rfl hl.1 rfl (lv_room (Nat.le_of_ble_eq_true rfl)) dX6_matched_9 ⟨Nat.le_of_ble_eq_true rfl, Nat.le_of_ble_eq_true rfl⟩) (fun k hk H locs q9 ce hW hS hce hcv hcl => by subst hk; have h := zx_l h; exact z_xout hex hlocks (congrArg Prod.fst (Option.some.inj h)).symm (congrArg Prod.snd (Option.some.inj h)) hW hS hce hcv hcl (Nat.le_of_ble_eq_true rfl) (Nat.le_of_ble_eq_true rfl)) (fun r8 hk H locs hW hS => ?_)
  subst hk
  have h := zx_r h
  refine lv_lstore_n (lv' := [(3, .long r8), (2, .ref (ad r4)), (0, .ref (ad x0)), (1, .int x1)]) hx hb dX6_matched_12 rfl hl (by decide) rfl (fun ls hl => ?_)
  refine lv_iconst (v := 0) hx hb dX6_matched_13 (by decide) ?_
  refine lv_istore (lv' := [(5, .int (0 : Int32)), (3, .long r8), (2, .ref (ad r4)), (0, .ref (ad x0)), (1, .int x1)]) hx hb dX6_matched_14 hl (by decide) rfl (fun ls hl => ?_)
  refine lv_iconst (v := 1) hx hb dX6_matched_16 (by decide) ?_
  refine lv_istore (lv' := [(6, .int (1 : Int32)), (5, .int (0 : Int32)), (3, .long r8), (2, .ref (ad r4)), (0, .ref (ad x0)), (1, .int x1)]) hx hb dX6_matched_17 hl (by decide) rfl (fun ls hl => ?_)
  exact t_X6_matched_19 C0 N  N h hW hS (lv_sub hl [3, 2, 1, 0] rfl)
def f_X6_matched (N : Nat) (K len : Nat → Nat) (a0 : Nat) (a1 : Int32) (M : ZM) : Option ((Nat ⊕ Int32) × ZM) := f_X6_matched_0 N K len a0 a1 M
set_option maxRecDepth 100000 in
set_option maxHeartbeats 4000000 in
theorem m_X6_matched (l : Launch) (hlt : l.stackTraces = false) {D : va_G} {cy : Nat → ClassId} {ad : Nat → Nat} {L : List Nat} {K len : Nat → Nat} (hL : zSh ad L K) (N : Nat) {a0 : Nat} {a1 : Int32} {M : ZM} {o : Nat ⊕ Int32} {Mr : ZM} (h : f_X6_matched N K len a0 a1 M = some (o, Mr)) (sz : Nat) : vx_Met l yX6_matched wsX6_matched ({ frames := 8, cells := 2, slots := 12, locals := 135 } : Room) (zPre D cy ad L K len sz [.ref (ad a0), .int a1] M) (zY D cy ad L K len zvI o Mr sz) (zX D cy ad L K len o Mr sz) 2 12 (zA ad L sz) :=
  z_xentry hlt (Qf := fun sz => zY D cy ad L K len zvI o Mr sz) (Xf := fun sz => zX D cy ad L K len o Mr sz) (av := [.ref (ad a0), .int a1]) (by decide) rfl rfl hL (Nat.le_of_ble_eq_true rfl) (fun p e s m args below meth c C0 H locs ls hW hS hl => t_X6_matched_0 C0 N h hW hS (lv_sub hl [0, 1] rfl))
def f_X6_mend_104 (N : Nat) (K len : Nat → Nat) (kh43 : Nat → Nat → Int64 → Int32 → Int32 → ZM → Option ((Nat ⊕ Int32) × ZM)) (x0 : Nat) (x2 : Nat) (x3 : Int64) (x5 : Int32) (x6 : Int32) (M : ZM) : Option ((Nat ⊕ Int32) × ZM) :=
kh43 x0 x2 x3 x5 (x6 + 1) M
set_option maxRecDepth 100000 in
set_option maxHeartbeats 4000000 in
theorem t_X6_mend_104 {p : Program} {l : Launch} {e : Env} {s : State} {m : MethodId} {args : Array Value} {below : List Frame} {meth : Method} {c : Code} {D : va_G} {cy : Nat → ClassId} {ad : Nat → Nat} {L : List Nat} {K len : Nat → Nat} (C0 : zCxX p l s m c meth args cX6_mend 9 wsX6_mend RX6 (some .int) D cy ad L K) (N : Nat) {kh43 : Nat → Nat → Int64 → Int32 → Int32 → ZM → Option ((Nat ⊕ Int32) × ZM)} {x0 : Nat} {x2 : Nat} {x3 : Int64} {x5 : Int32} {x6 : Int32} {M : ZM} {o : Nat ⊕ Int32} {Mr : ZM} (hk43 : ∀ {y0 : Nat} {y2 : Nat} {y3 : Int64} {y5 : Int32} {y6 : Int32} {M : ZM}, kh43 y0 y2 y3 y5 y6 M = some (o, Mr) → ∀ {H : Heap} {locs : List Loc} {ls : Array Slot}, zWd D cy ad L K len M H → va_S (zA ad L s.heap.size) s.heap H locs → lv_has ls 9 [(0, .ref (ad y0)), (2, .ref (ad y2)), (3, .long y3), (5, .int y5), (6, .int y6)] → W p l e (headSpec wsX6_mend ({ frames := 8, cells := 3, slots := 18, locals := 135 } : Room)).room s m args below meth c H locs 2 12 (vx_MQ below (zY D cy ad L K len zvI o Mr s.heap.size) (zX D cy ad L K len o Mr s.heap.size) args s 3 18 (zA ad L s.heap.size)) (F0 m 43 ls [])) (h : f_X6_mend_104 N K len kh43 x0 x2 x3 x5 x6 M = some (o, Mr)) {H : Heap} {locs : List Loc} {ls : Array Slot} (hW : zWd D cy ad L K len M H) (hS : va_S (zA ad L s.heap.size) s.heap H locs) (hl : lv_has ls 9 [(0, .ref (ad x0)), (2, .ref (ad x2)), (3, .long x3), (5, .int x5), (6, .int x6)]) : W p l e (headSpec wsX6_mend ({ frames := 8, cells := 3, slots := 18, locals := 135 } : Room)).room s m args below meth c H locs 2 12 (vx_MQ below (zY D cy ad L K len zvI o Mr s.heap.size) (zX D cy ad L K len o Mr s.heap.size) args s 3 18 (zA ad L s.heap.size)) (F0 m 104 ls []) := by
  obtain ⟨⟨hx, hb, hr, hml, hown, hts, hlocks, hK, hL, hE⟩, hlt, hex⟩ := id C0
  unfold f_X6_mend_104 at h
  refine lv_iinc (k := 4) (v := (x6 + 1)) (lv' := [(6, .int (x6 + 1)), (0, .ref (ad x0)), (2, .ref (ad x2)), (3, .long x3), (5, .int x5)]) hx hb dX6_mend_104 hl rfl (by rw [show Int32.ofInt 1 = (1 : Int32) from by decide]) (by decide) rfl (fun ls hl => ?_)
  refine lv_goto (tgt := 43) hx hb dX6_mend_107 (by decide) ?_
  exact hk43 h hW hS (lv_sub hl [1, 2, 3, 4, 0] rfl)
def f_X6_mend_43 (N : Nat) (K len : Nat → Nat) : Nat → Nat → Nat → Int64 → Int32 → Int32 → ZM → Option ((Nat ⊕ Int32) × ZM)
  | 0, _, _, _, _, _, _ => none
  | n + 1, x0, x2, x3, x5, x6, M =>
    (f_X2_size N K len x2 M).bind fun q1 => (
    zg (K x2 == 3) (
    (if q1 < x6 then
    zg (K x0 == 7) (
    (zR M x0 2).bind fun b6 => (
    (f_X5_endStep N K len b6 M).bind fun M10 => (
    zg (K b6 == 6) (
    some (Sum.inr x5, M10)))))
    else
    (f_X2_rightHead N K len x2 x6 M).bind fun q12 => (
    (f_X6_headIn N x3 x6).bind fun q14 => (
    (if q12 = q14 then
    f_X6_mend_104 N K len (fun y0 y2 y3 y5 y6 M => f_X6_mend_43 N K len  n y0 y2 y3 y5 y6 M) x0 x2 x3 x5 x6 M
    else
    zg (K x0 == 7) (
    (zR M x0 2).bind fun b18 => (
    (f_X5_addToArc N K len b18 x2 q12 x6 (1 : Int32) M).bind fun M22 => (
    zg (K b18 == 6) (
    (zR M22 x0 2).bind fun b24 => (
    (f_X5_addToArc N K len b24 x2 q14 x6 (-1 : Int32) M22).bind fun M28 => (
    zg (K b24 == 6) (
    f_X6_mend_104 N K len (fun y0 y2 y3 y5 y6 M => f_X6_mend_43 N K len  n y0 y2 y3 y5 y6 M) x0 x2 x3 (x5 + 1) x6 M28)))))))))))))
set_option maxRecDepth 100000 in
set_option maxHeartbeats 4000000 in
theorem t_X6_mend_43 {p : Program} {l : Launch} {e : Env} {s : State} {m : MethodId} {args : Array Value} {below : List Frame} {meth : Method} {c : Code} {D : va_G} {cy : Nat → ClassId} {ad : Nat → Nat} {L : List Nat} {K len : Nat → Nat} (C0 : zCxX p l s m c meth args cX6_mend 9 wsX6_mend RX6 (some .int) D cy ad L K) (N : Nat) {o : Nat ⊕ Int32} {Mr : ZM} : ∀ (n : Nat) {x0 : Nat} {x2 : Nat} {x3 : Int64} {x5 : Int32} {x6 : Int32} {M : ZM}, f_X6_mend_43 N K len n x0 x2 x3 x5 x6 M = some (o, Mr) → ∀ {H : Heap} {locs : List Loc} {ls : Array Slot}, zWd D cy ad L K len M H → va_S (zA ad L s.heap.size) s.heap H locs → lv_has ls 9 [(0, .ref (ad x0)), (2, .ref (ad x2)), (3, .long x3), (5, .int x5), (6, .int x6)] → W p l e (headSpec wsX6_mend ({ frames := 8, cells := 3, slots := 18, locals := 135 } : Room)).room s m args below meth c H locs 2 12 (vx_MQ below (zY D cy ad L K len zvI o Mr s.heap.size) (zX D cy ad L K len o Mr s.heap.size) args s 3 18 (zA ad L s.heap.size)) (F0 m 43 ls []) := by
  obtain ⟨⟨hx, hb, hr, hml, hown, hts, hlocks, hK, hL, hE⟩, hlt, hex⟩ := id C0
  have hinX6 : ∀ w ∈ wsX60, w ∈ wsX6_mend := by decide +kernel
  intro n
  induction n with
  | zero =>
    intro x0 x2 x3 x5 x6 M h
    cases (show (none : Option ((Nat ⊕ Int32) × ZM)) = some (o, Mr) from h)
  | succ n ih =>
    intro x0 x2 x3 x5 x6 M h H locs ls hW hS hl
    rw [f_X6_mend_43] at h
    refine lv_iload hx hb dX6_mend_43 (lv_at hl 4 rfl) ?_
    refine lv_aload_n hx hb dX6_mend_45 rfl (lv_at hl 1 rfl) ?_
    obtain ⟨q1, e2, h⟩ := zb_some h
    obtain ⟨g3, h⟩ := zg_some h
    refine z_calli hS (va_runV (As := []) (rest := [.int x6]) ⟨hx, hb, hml, hown, hts⟩ (m_X2_size l hL N e2 H.size) (cwV 0 hts gX6_mend_X2_size rfl rfl rfl (by decide +kernel) ⟨Nat.le_of_ble_eq_true rfl, Nat.le_of_ble_eq_true rfl⟩) (z_preV (q := (RX2, TX2, 4)) hK hL hE hW hS (zK_of g3) (by decide) rfl []) rfl rfl hl.1 rfl (lv_room (Nat.le_of_ble_eq_true rfl)) dX6_mend_46 ⟨Nat.le_of_ble_eq_true rfl, Nat.le_of_ble_eq_true rfl⟩) (fun H locs hW hS => ?_)
    refine lv_icmp_gt (tgt := 110) hx hb dX6_mend_49 (by decide) (fun c4 => ?_) (fun c4 => ?_)
    · have h := zip c4 h
      refine lv_aload_n hx hb dX6_mend_110 rfl (lv_at hl 0 rfl) ?_
      obtain ⟨g5, h⟩ := zg_some h
      obtain ⟨b6, e7, h⟩ := zb_some h
      refine z_get (own := RX6) (C := RX6) (T := TX6) (N := 7) (ci := 6) hx hb hts hinX6 hown hK hL hW 2 (zK_of g5) rfl (by decide) (by decide) rfl (hts (.fieldLink RX6 22 "ArcLight" "weights" "LArcLight$Weights;") (by decide +kernel)) (v := .ref (ad b6)) (zhvR e7 rfl) dX6_mend_111 ?_
      obtain ⟨M10, e9, h⟩ := zb_some h
      obtain ⟨g11, h⟩ := zg_some h
      refine z_callv hS (va_runV (As := []) (rest := []) ⟨hx, hb, hml, hown, hts⟩ (m_X5_endStep l hL N e9 H.size) (cwV 0 hts gX6_mend_X5_endStep rfl rfl rfl (by decide +kernel) ⟨Nat.le_of_ble_eq_true rfl, Nat.le_of_ble_eq_true rfl⟩) (z_preV (q := (RX5, TX5, 8)) hK hL hE hW hS (zK_of g11) (by decide) rfl []) rfl rfl hl.1 rfl (lv_room (Nat.le_of_ble_eq_true rfl)) dX6_mend_114 ⟨Nat.le_of_ble_eq_true rfl, Nat.le_of_ble_eq_true rfl⟩) (fun H locs hW hS => ?_)
      refine lv_iload hx hb dX6_mend_117 (lv_at hl 3 rfl) ?_
      exact z_xiret hx hb hr hlocks hW hS (congrArg Prod.fst (Option.some.inj h)) (congrArg Prod.snd (Option.some.inj h)) dX6_mend_119 (Nat.le_of_ble_eq_true rfl) (Nat.le_of_ble_eq_true rfl)
    · have h := zin c4 h
      refine lv_aload_n hx hb dX6_mend_52 rfl (lv_at hl 1 rfl) ?_
      refine lv_iload hx hb dX6_mend_53 (lv_at hl 4 rfl) ?_
      obtain ⟨q12, e13, h⟩ := zb_some h
      refine z_calli hS (va_runV (As := [.int x6]) (rest := []) ⟨hx, hb, hml, hown, hts⟩ (m_X2_rightHead l hL N e13 H.size) (cwV 1 hts gX6_mend_X2_rightHead rfl rfl rfl (by decide +kernel) ⟨Nat.le_of_ble_eq_true rfl, Nat.le_of_ble_eq_true rfl⟩) (z_preV (q := (RX2, TX2, 4)) hK hL hE hW hS (zK_of g3) (by decide) rfl [.int x6]) rfl rfl hl.1 rfl (lv_room (Nat.le_of_ble_eq_true rfl)) dX6_mend_55 ⟨Nat.le_of_ble_eq_true rfl, Nat.le_of_ble_eq_true rfl⟩) (fun H locs hW hS => ?_)
      refine lv_istore (lv' := [(7, .int q12), (0, .ref (ad x0)), (2, .ref (ad x2)), (3, .long x3), (5, .int x5), (6, .int x6)]) hx hb dX6_mend_58 hl (by decide) rfl (fun ls hl => ?_)
      refine lv_lload_n hx hb dX6_mend_60 rfl (lv_at hl 3 rfl) ?_
      refine lv_iload hx hb dX6_mend_61 (lv_at hl 5 rfl) ?_
      obtain ⟨q14, e15, h⟩ := zb_some h
      refine z_calli hS (va_runS (As := [.long x3, .int x6]) (rest := []) ⟨hx, hb, hml, hown, hts⟩ (m_X6_headIn l (M := M) hL N e15 H.size) (va_cwS 2 hts gX6_mend_X6_headIn rfl rfl rfl (by decide +kernel) ⟨Nat.le_of_ble_eq_true rfl, Nat.le_of_ble_eq_true rfl⟩) (z_preS hK hE hW hS [.long x3, .int x6]) rfl rfl hl.1 rfl (lv_room (Nat.le_of_ble_eq_true rfl)) dX6_mend_63 ⟨Nat.le_of_ble_eq_true rfl, Nat.le_of_ble_eq_true rfl⟩) (fun H locs hW hS => ?_)
      refine lv_istore (lv' := [(8, .int q14), (7, .int q12), (0, .ref (ad x0)), (2, .ref (ad x2)), (3, .long x3), (5, .int x5), (6, .int x6)]) hx hb dX6_mend_66 hl (by decide) rfl (fun ls hl => ?_)
      refine lv_iload hx hb dX6_mend_68 (lv_at hl 1 rfl) ?_
      refine lv_iload hx hb dX6_mend_70 (lv_at hl 0 rfl) ?_
      refine lv_icmp_eq (tgt := 104) hx hb dX6_mend_72 (by decide) (fun c16 => ?_) (fun c16 => ?_)
      · have h := zip c16 h
        exact t_X6_mend_104 C0 N (fun h _ _ _ hW hS hl => ih h hW hS hl) h hW hS (lv_sub hl [2, 3, 4, 5, 6] rfl)
      · have h := zin c16 h
        refine lv_iinc (k := 5) (v := (x5 + 1)) (lv' := [(5, .int (x5 + 1)), (8, .int q14), (7, .int q12), (0, .ref (ad x0)), (2, .ref (ad x2)), (3, .long x3), (6, .int x6)]) hx hb dX6_mend_75 hl rfl (by rw [show Int32.ofInt 1 = (1 : Int32) from by decide]) (by decide) rfl (fun ls hl => ?_)
        refine lv_aload_n hx hb dX6_mend_78 rfl (lv_at hl 3 rfl) ?_
        obtain ⟨g17, h⟩ := zg_some h
        obtain ⟨b18, e19, h⟩ := zb_some h
        refine z_get (own := RX6) (C := RX6) (T := TX6) (N := 7) (ci := 6) hx hb hts hinX6 hown hK hL hW 2 (zK_of g17) rfl (by decide) (by decide) rfl (hts (.fieldLink RX6 22 "ArcLight" "weights" "LArcLight$Weights;") (by decide +kernel)) (v := .ref (ad b18)) (zhvR e19 rfl) dX6_mend_79 ?_
        refine lv_aload_n hx hb dX6_mend_82 rfl (lv_at hl 4 rfl) ?_
        refine lv_iload hx hb dX6_mend_83 (lv_at hl 2 rfl) ?_
        refine lv_iload hx hb dX6_mend_85 (lv_at hl 6 rfl) ?_
        refine lv_iconst (v := 1) hx hb dX6_mend_87 (by decide) ?_
        obtain ⟨M22, e21, h⟩ := zb_some h
        obtain ⟨g23, h⟩ := zg_some h
        refine z_callv hS (va_runV (As := [.ref (ad x2), .int q12, .int x6, .int (1 : Int32)]) (rest := []) ⟨hx, hb, hml, hown, hts⟩ (m_X5_addToArc l hL N e21 H.size) (cwV 4 hts gX6_mend_X5_addToArc rfl rfl rfl (by decide +kernel) ⟨Nat.le_of_ble_eq_true rfl, Nat.le_of_ble_eq_true rfl⟩) (z_preV (q := (RX5, TX5, 8)) hK hL hE hW hS (zK_of g23) (by decide) rfl [.ref (ad x2), .int q12, .int x6, .int (1 : Int32)]) rfl rfl hl.1 rfl (lv_room (Nat.le_of_ble_eq_true rfl)) dX6_mend_88 ⟨Nat.le_of_ble_eq_true rfl, Nat.le_of_ble_eq_true rfl⟩) (fun H locs hW hS => ?_)
        refine lv_aload_n hx hb dX6_mend_91 rfl (lv_at hl 3 rfl) ?_
        obtain ⟨b24, e25, h⟩ := zb_some h
        refine z_get (own := RX6) (C := RX6) (T := TX6) (N := 7) (ci := 6) hx hb hts hinX6 hown hK hL hW 2 (zK_of g17) rfl (by decide) (by decide) rfl (hts (.fieldLink RX6 22 "ArcLight" "weights" "LArcLight$Weights;") (by decide +kernel)) (v := .ref (ad b24)) (zhvR e25 rfl) dX6_mend_92 ?_
        refine lv_aload_n hx hb dX6_mend_95 rfl (lv_at hl 4 rfl) ?_
        refine lv_iload hx hb dX6_mend_96 (lv_at hl 1 rfl) ?_
        refine lv_iload hx hb dX6_mend_98 (lv_at hl 6 rfl) ?_
        refine lv_iconst (v := -1) hx hb dX6_mend_100 (by decide) ?_
        obtain ⟨M28, e27, h⟩ := zb_some h
        obtain ⟨g29, h⟩ := zg_some h
        refine z_callv hS (va_runV (As := [.ref (ad x2), .int q14, .int x6, .int (-1 : Int32)]) (rest := []) ⟨hx, hb, hml, hown, hts⟩ (m_X5_addToArc l hL N e27 H.size) (cwV 4 hts gX6_mend_X5_addToArc rfl rfl rfl (by decide +kernel) ⟨Nat.le_of_ble_eq_true rfl, Nat.le_of_ble_eq_true rfl⟩) (z_preV (q := (RX5, TX5, 8)) hK hL hE hW hS (zK_of g29) (by decide) rfl [.ref (ad x2), .int q14, .int x6, .int (-1 : Int32)]) rfl rfl hl.1 rfl (lv_room (Nat.le_of_ble_eq_true rfl)) dX6_mend_101 ⟨Nat.le_of_ble_eq_true rfl, Nat.le_of_ble_eq_true rfl⟩) (fun H locs hW hS => ?_)
        exact t_X6_mend_104 C0 N (fun h _ _ _ hW hS hl => ih h hW hS hl) h hW hS (lv_sub hl [3, 4, 5, 0, 6] rfl)
def f_X6_mend_0 (N : Nat) (K len : Nat → Nat) (x0 : Nat) (x1 : Int32) (M : ZM) : Option ((Nat ⊕ Int32) × ZM) :=
zg (K x0 == 7) (
(f_X6_find N K len x0 x1 M).bind fun q1 => (
zx q1 (fun k => some (Sum.inl k, M)) fun r4 => (
(f_X2_hasRightTree N K len r4 M).bind fun q5 => (
zg (K r4 == 3) (
(if q5 = 0 then
some (Sum.inl 3, M)
else
zbp (f_X6_bestKey N K len x0 r4 (1 : Int32) M) fun q9 M11 => (
zx q9 (fun k => some (Sum.inl k, M11)) fun r12 => (
(zR M11 x0 2).bind fun b13 => (
(f_X5_keep N K len b13 M11).bind fun M17 => (
zg (K b13 == 6) (
f_X6_mend_43 N K len  N x0 r4 r12 (0 : Int32) (1 : Int32) M17)))))))))))
set_option maxRecDepth 100000 in
set_option maxHeartbeats 4000000 in
theorem t_X6_mend_0 {p : Program} {l : Launch} {e : Env} {s : State} {m : MethodId} {args : Array Value} {below : List Frame} {meth : Method} {c : Code} {D : va_G} {cy : Nat → ClassId} {ad : Nat → Nat} {L : List Nat} {K len : Nat → Nat} (C0 : zCxX p l s m c meth args cX6_mend 9 wsX6_mend RX6 (some .int) D cy ad L K) (N : Nat) {x0 : Nat} {x1 : Int32} {M : ZM} {o : Nat ⊕ Int32} {Mr : ZM} (h : f_X6_mend_0 N K len x0 x1 M = some (o, Mr)) {H : Heap} {locs : List Loc} {ls : Array Slot} (hW : zWd D cy ad L K len M H) (hS : va_S (zA ad L s.heap.size) s.heap H locs) (hl : lv_has ls 9 [(0, .ref (ad x0)), (1, .int x1)]) : W p l e (headSpec wsX6_mend ({ frames := 8, cells := 3, slots := 18, locals := 135 } : Room)).room s m args below meth c H locs 0 0 (vx_MQ below (zY D cy ad L K len zvI o Mr s.heap.size) (zX D cy ad L K len o Mr s.heap.size) args s 3 18 (zA ad L s.heap.size)) (F0 m 0 ls []) := by
  obtain ⟨⟨hx, hb, hr, hml, hown, hts, hlocks, hK, hL, hE⟩, hlt, hex⟩ := id C0
  have hinX6 : ∀ w ∈ wsX60, w ∈ wsX6_mend := by decide +kernel
  unfold f_X6_mend_0 at h
  refine lv_aload_n hx hb dX6_mend_0 rfl (lv_at hl 0 rfl) ?_
  refine lv_iload_n hx hb dX6_mend_1 rfl (lv_at hl 1 rfl) ?_
  obtain ⟨g3, h⟩ := zg_some h
  obtain ⟨q1, e2, h⟩ := zb_some h
  refine z_xcallr hS (vx_runV (As := [.int x1]) (rest := []) ⟨hx, hb, hml, hown, hts⟩ (m_X6_find l hlt hL N e2 H.size) (cwV 1 hts gX6_mend_X6_find rfl rfl rfl (by decide +kernel) ⟨Nat.le_of_ble_eq_true rfl, Nat.le_of_ble_eq_true rfl⟩) (z_preV (q := (RX6, TX6, 7)) hK hL hE hW hS (zK_of g3) (by decide) rfl [.int x1]) rfl rfl hl.1 rfl (lv_room (Nat.le_of_ble_eq_true rfl)) dX6_mend_2 ⟨Nat.le_of_ble_eq_true rfl, Nat.le_of_ble_eq_true rfl⟩) (fun k hk H locs q9 ce hW hS hce hcv hcl => by subst hk; have h := zx_l h; exact z_xout hex hlocks (congrArg Prod.fst (Option.some.inj h)).symm (congrArg Prod.snd (Option.some.inj h)) hW hS hce hcv hcl (Nat.le_of_ble_eq_true rfl) (Nat.le_of_ble_eq_true rfl)) (fun r4 hk H locs hW hS => ?_)
  subst hk
  have h := zx_r h
  refine lv_astore_n (lv' := [(2, .ref (ad r4)), (0, .ref (ad x0)), (1, .int x1)]) hx hb dX6_mend_5 rfl hl (by decide) rfl (fun ls hl => ?_)
  refine lv_aload_n hx hb dX6_mend_6 rfl (lv_at hl 0 rfl) ?_
  obtain ⟨q5, e6, h⟩ := zb_some h
  obtain ⟨g7, h⟩ := zg_some h
  refine z_calli hS (va_runV (As := []) (rest := []) ⟨hx, hb, hml, hown, hts⟩ (m_X2_hasRightTree l hL N e6 H.size) (cwV 0 hts gX6_mend_X2_hasRightTree rfl rfl rfl (by decide +kernel) ⟨Nat.le_of_ble_eq_true rfl, Nat.le_of_ble_eq_true rfl⟩) (z_preV (q := (RX2, TX2, 4)) hK hL hE hW hS (zK_of g7) (by decide) rfl []) rfl rfl hl.1 rfl (lv_room (Nat.le_of_ble_eq_true rfl)) dX6_mend_7 ⟨Nat.le_of_ble_eq_true rfl, Nat.le_of_ble_eq_true rfl⟩) (fun H locs hW hS => ?_)
  refine lv_if_ne (tgt := 23) hx hb dX6_mend_10 (by decide) (fun c8 => ?_) (fun c8 => ?_)
  · have h := zin c8 h
    refine lv_aload_n hx hb dX6_mend_23 rfl (lv_at hl 1 rfl) ?_
    refine lv_aload_n hx hb dX6_mend_24 rfl (lv_at hl 0 rfl) ?_
    refine lv_iconst (v := 1) hx hb dX6_mend_25 (by decide) ?_
    obtain ⟨q9, M11, e10, h⟩ := zbp_some h
    refine z_xcalll hS (vx_runV (As := [.ref (ad r4), .int (1 : Int32)]) (rest := []) ⟨hx, hb, hml, hown, hts⟩ (m_X6_bestKey l hlt hL N e10 H.size) (cwV 2 hts gX6_mend_X6_bestKey rfl rfl rfl (by decide +kernel) ⟨Nat.le_of_ble_eq_true rfl, Nat.le_of_ble_eq_true rfl⟩) (z_preV (q := (RX6, TX6, 7)) hK hL hE hW hS (zK_of g3) (by decide) rfl [.ref (ad r4), .int (1 : Int32)]) rfl rfl hl.1 rfl (lv_room (Nat.le_of_ble_eq_true rfl)) dX6_mend_26 ⟨Nat.le_of_ble_eq_true rfl, Nat.le_of_ble_eq_true rfl⟩) (fun k hk H locs q9 ce hW hS hce hcv hcl => by subst hk; have h := zx_l h; exact z_xout hex hlocks (congrArg Prod.fst (Option.some.inj h)).symm (congrArg Prod.snd (Option.some.inj h)) hW hS hce hcv hcl (Nat.le_of_ble_eq_true rfl) (Nat.le_of_ble_eq_true rfl)) (fun r12 hk H locs hW hS => ?_)
    subst hk
    have h := zx_r h
    refine lv_lstore_n (lv' := [(3, .long r12), (2, .ref (ad r4)), (0, .ref (ad x0)), (1, .int x1)]) hx hb dX6_mend_29 rfl hl (by decide) rfl (fun ls hl => ?_)
    refine lv_aload_n hx hb dX6_mend_30 rfl (lv_at hl 2 rfl) ?_
    obtain ⟨b13, e14, h⟩ := zb_some h
    refine z_get (own := RX6) (C := RX6) (T := TX6) (N := 7) (ci := 6) hx hb hts hinX6 hown hK hL hW 2 (zK_of g3) rfl (by decide) (by decide) rfl (hts (.fieldLink RX6 22 "ArcLight" "weights" "LArcLight$Weights;") (by decide +kernel)) (v := .ref (ad b13)) (zhvR e14 rfl) dX6_mend_31 ?_
    obtain ⟨M17, e16, h⟩ := zb_some h
    obtain ⟨g18, h⟩ := zg_some h
    refine z_callv hS (va_runV (As := []) (rest := []) ⟨hx, hb, hml, hown, hts⟩ (m_X5_keep l hL N e16 H.size) (cwV 0 hts gX6_mend_X5_keep rfl rfl rfl (by decide +kernel) ⟨Nat.le_of_ble_eq_true rfl, Nat.le_of_ble_eq_true rfl⟩) (z_preV (q := (RX5, TX5, 8)) hK hL hE hW hS (zK_of g18) (by decide) rfl []) rfl rfl hl.1 rfl (lv_room (Nat.le_of_ble_eq_true rfl)) dX6_mend_34 ⟨Nat.le_of_ble_eq_true rfl, Nat.le_of_ble_eq_true rfl⟩) (fun H locs hW hS => ?_)
    refine lv_iconst (v := 0) hx hb dX6_mend_37 (by decide) ?_
    refine lv_istore (lv' := [(5, .int (0 : Int32)), (3, .long r12), (2, .ref (ad r4)), (0, .ref (ad x0)), (1, .int x1)]) hx hb dX6_mend_38 hl (by decide) rfl (fun ls hl => ?_)
    refine lv_iconst (v := 1) hx hb dX6_mend_40 (by decide) ?_
    refine lv_istore (lv' := [(6, .int (1 : Int32)), (5, .int (0 : Int32)), (3, .long r12), (2, .ref (ad r4)), (0, .ref (ad x0)), (1, .int x1)]) hx hb dX6_mend_41 hl (by decide) rfl (fun ls hl => ?_)
    exact t_X6_mend_43 C0 N  N h hW hS (lv_sub hl [4, 3, 2, 1, 0] rfl)
  · have h := zip c8 h
    have hgw : ∀ w ∈ (vx_atS RX6 58 (zexn 3) znames).filter goodWord, w ∈ wsX6_mend := by decide +kernel
    exact z_throw (own := RX6) (k := 3) (ik := 54) (is := 173) (ic := 58) (text := "the right heads are not all told, or make no tree") (names := znames) hx hb hlt hown zfit3 znames_fit (hts (.classLink RX6 54 "java/lang/IllegalStateException") (by decide +kernel)) (hts (.initialized "java/lang/IllegalStateException") (by decide +kernel)) (hE.2.2.2.1 (173, "the right heads are not all told, or make no tree") (by decide)) (vx_hat (B := znw) (fun w hw => hts w (hgw w hw)) (by decide +kernel) (znw_use hE.1)) (by decide +kernel) hE hW hS (hl.1.trans hml.symm) dX6_mend_13 dX6_mend_16 dX6_mend_17 dX6_mend_19 dX6_mend_22 hex (congrArg Prod.fst (Option.some.inj h)).symm (congrArg Prod.snd (Option.some.inj h)) (Nat.le_of_ble_eq_true rfl) (Nat.le_of_ble_eq_true rfl) (Nat.le_of_ble_eq_true rfl) (Nat.le_of_ble_eq_true rfl) hlocks (Nat.le_of_ble_eq_true rfl) (Nat.le_of_ble_eq_true rfl)
def f_X6_mend (N : Nat) (K len : Nat → Nat) (a0 : Nat) (a1 : Int32) (M : ZM) : Option ((Nat ⊕ Int32) × ZM) := f_X6_mend_0 N K len a0 a1 M
set_option maxRecDepth 100000 in
set_option maxHeartbeats 4000000 in
theorem m_X6_mend (l : Launch) (hlt : l.stackTraces = false) {D : va_G} {cy : Nat → ClassId} {ad : Nat → Nat} {L : List Nat} {K len : Nat → Nat} (hL : zSh ad L K) (N : Nat) {a0 : Nat} {a1 : Int32} {M : ZM} {o : Nat ⊕ Int32} {Mr : ZM} (h : f_X6_mend N K len a0 a1 M = some (o, Mr)) (sz : Nat) : vx_Met l yX6_mend wsX6_mend ({ frames := 8, cells := 3, slots := 18, locals := 135 } : Room) (zPre D cy ad L K len sz [.ref (ad a0), .int a1] M) (zY D cy ad L K len zvI o Mr sz) (zX D cy ad L K len o Mr sz) 3 18 (zA ad L sz) :=
  z_xentry hlt (Qf := fun sz => zY D cy ad L K len zvI o Mr sz) (Xf := fun sz => zX D cy ad L K len o Mr sz) (av := [.ref (ad a0), .int a1]) (by decide) rfl rfl hL (Nat.le_of_ble_eq_true rfl) (fun p e s m args below meth c C0 H locs ls hW hS hl => t_X6_mend_0 C0 N h hW hS (lv_sub hl [0, 1] rfl))
def f_X6_rollBack_0 (N : Nat) (K len : Nat → Nat) (x0 : Nat) (M : ZM) : Option ((Nat ⊕ Int32) × ZM) :=
zg (K x0 == 7) (
(zR M x0 2).bind fun b2 => (
(f_X5_keptCount N K len b2 M).bind fun q4 => (
zg (K b2 == 6) (
(if (0 : Int32) < q4 then
(f_X5_takeBack N K len b2 M).bind fun M10 => (
(zR M10 x0 2).bind fun b11 => (
(f_X5_keptCount N K len b11 M10).bind fun q13 => (
zg (K b11 == 6) (
some (Sum.inr q13, M10)))))
else
some (Sum.inl 3, M))))))
set_option maxRecDepth 100000 in
set_option maxHeartbeats 4000000 in
theorem t_X6_rollBack_0 {p : Program} {l : Launch} {e : Env} {s : State} {m : MethodId} {args : Array Value} {below : List Frame} {meth : Method} {c : Code} {D : va_G} {cy : Nat → ClassId} {ad : Nat → Nat} {L : List Nat} {K len : Nat → Nat} (C0 : zCxX p l s m c meth args cX6_rollBack 1 wsX6_rollBack RX6 (some .int) D cy ad L K) (N : Nat) {x0 : Nat} {M : ZM} {o : Nat ⊕ Int32} {Mr : ZM} (h : f_X6_rollBack_0 N K len x0 M = some (o, Mr)) {H : Heap} {locs : List Loc} {ls : Array Slot} (hW : zWd D cy ad L K len M H) (hS : va_S (zA ad L s.heap.size) s.heap H locs) (hl : lv_has ls 1 [(0, .ref (ad x0))]) : W p l e (headSpec wsX6_rollBack ({ frames := 6, cells := 1, slots := 6, locals := 90 } : Room)).room s m args below meth c H locs 0 0 (vx_MQ below (zY D cy ad L K len zvI o Mr s.heap.size) (zX D cy ad L K len o Mr s.heap.size) args s 1 6 (zA ad L s.heap.size)) (F0 m 0 ls []) := by
  obtain ⟨⟨hx, hb, hr, hml, hown, hts, hlocks, hK, hL, hE⟩, hlt, hex⟩ := id C0
  have hinX6 : ∀ w ∈ wsX60, w ∈ wsX6_rollBack := by decide +kernel
  unfold f_X6_rollBack_0 at h
  refine lv_aload_n hx hb dX6_rollBack_0 rfl (lv_at hl 0 rfl) ?_
  obtain ⟨g1, h⟩ := zg_some h
  obtain ⟨b2, e3, h⟩ := zb_some h
  refine z_get (own := RX6) (C := RX6) (T := TX6) (N := 7) (ci := 6) hx hb hts hinX6 hown hK hL hW 2 (zK_of g1) rfl (by decide) (by decide) rfl (hts (.fieldLink RX6 22 "ArcLight" "weights" "LArcLight$Weights;") (by decide +kernel)) (v := .ref (ad b2)) (zhvR e3 rfl) dX6_rollBack_1 ?_
  obtain ⟨q4, e5, h⟩ := zb_some h
  obtain ⟨g6, h⟩ := zg_some h
  refine z_calli hS (va_runV (As := []) (rest := []) ⟨hx, hb, hml, hown, hts⟩ (m_X5_keptCount l hL N e5 H.size) (cwV 0 hts gX6_rollBack_X5_keptCount rfl rfl rfl (by decide +kernel) ⟨Nat.le_of_ble_eq_true rfl, Nat.le_of_ble_eq_true rfl⟩) (z_preV (q := (RX5, TX5, 8)) hK hL hE hW hS (zK_of g6) (by decide) rfl []) rfl rfl hl.1 rfl (lv_room (Nat.le_of_ble_eq_true rfl)) dX6_rollBack_4 ⟨Nat.le_of_ble_eq_true rfl, Nat.le_of_ble_eq_true rfl⟩) (fun H locs hW hS => ?_)
  refine lv_if_gt (tgt := 20) hx hb dX6_rollBack_7 (by decide) (fun c7 => ?_) (fun c7 => ?_)
  · have h := zip c7 h
    refine lv_aload_n hx hb dX6_rollBack_20 rfl (lv_at hl 0 rfl) ?_
    refine z_get (own := RX6) (C := RX6) (T := TX6) (N := 7) (ci := 6) hx hb hts hinX6 hown hK hL hW 2 (zK_of g1) rfl (by decide) (by decide) rfl (hts (.fieldLink RX6 22 "ArcLight" "weights" "LArcLight$Weights;") (by decide +kernel)) (v := .ref (ad b2)) (zhvR e3 rfl) dX6_rollBack_21 ?_
    obtain ⟨M10, e9, h⟩ := zb_some h
    refine z_callv hS (va_runV (As := []) (rest := []) ⟨hx, hb, hml, hown, hts⟩ (m_X5_takeBack l hL N e9 H.size) (cwV 0 hts gX6_rollBack_X5_takeBack rfl rfl rfl (by decide +kernel) ⟨Nat.le_of_ble_eq_true rfl, Nat.le_of_ble_eq_true rfl⟩) (z_preV (q := (RX5, TX5, 8)) hK hL hE hW hS (zK_of g6) (by decide) rfl []) rfl rfl hl.1 rfl (lv_room (Nat.le_of_ble_eq_true rfl)) dX6_rollBack_24 ⟨Nat.le_of_ble_eq_true rfl, Nat.le_of_ble_eq_true rfl⟩) (fun H locs hW hS => ?_)
    refine lv_aload_n hx hb dX6_rollBack_27 rfl (lv_at hl 0 rfl) ?_
    obtain ⟨b11, e12, h⟩ := zb_some h
    refine z_get (own := RX6) (C := RX6) (T := TX6) (N := 7) (ci := 6) hx hb hts hinX6 hown hK hL hW 2 (zK_of g1) rfl (by decide) (by decide) rfl (hts (.fieldLink RX6 22 "ArcLight" "weights" "LArcLight$Weights;") (by decide +kernel)) (v := .ref (ad b11)) (zhvR e12 rfl) dX6_rollBack_28 ?_
    obtain ⟨q13, e14, h⟩ := zb_some h
    obtain ⟨g15, h⟩ := zg_some h
    refine z_calli hS (va_runV (As := []) (rest := []) ⟨hx, hb, hml, hown, hts⟩ (m_X5_keptCount l hL N e14 H.size) (cwV 0 hts gX6_rollBack_X5_keptCount rfl rfl rfl (by decide +kernel) ⟨Nat.le_of_ble_eq_true rfl, Nat.le_of_ble_eq_true rfl⟩) (z_preV (q := (RX5, TX5, 8)) hK hL hE hW hS (zK_of g15) (by decide) rfl []) rfl rfl hl.1 rfl (lv_room (Nat.le_of_ble_eq_true rfl)) dX6_rollBack_31 ⟨Nat.le_of_ble_eq_true rfl, Nat.le_of_ble_eq_true rfl⟩) (fun H locs hW hS => ?_)
    exact z_xiret hx hb hr hlocks hW hS (congrArg Prod.fst (Option.some.inj h)) (congrArg Prod.snd (Option.some.inj h)) dX6_rollBack_34 (Nat.le_of_ble_eq_true rfl) (Nat.le_of_ble_eq_true rfl)
  · have h := zin c7 h
    have hgw : ∀ w ∈ (vx_atS RX6 58 (zexn 3) znames).filter goodWord, w ∈ wsX6_rollBack := by decide +kernel
    exact z_throw (own := RX6) (k := 3) (ik := 54) (is := 192) (ic := 58) (text := "nothing can be rolled back") (names := znames) hx hb hlt hown zfit3 znames_fit (hts (.classLink RX6 54 "java/lang/IllegalStateException") (by decide +kernel)) (hts (.initialized "java/lang/IllegalStateException") (by decide +kernel)) (hE.2.2.2.1 (192, "nothing can be rolled back") (by decide)) (vx_hat (B := znw) (fun w hw => hts w (hgw w hw)) (by decide +kernel) (znw_use hE.1)) (by decide +kernel) hE hW hS (hl.1.trans hml.symm) dX6_rollBack_10 dX6_rollBack_13 dX6_rollBack_14 dX6_rollBack_16 dX6_rollBack_19 hex (congrArg Prod.fst (Option.some.inj h)).symm (congrArg Prod.snd (Option.some.inj h)) (Nat.le_of_ble_eq_true rfl) (Nat.le_of_ble_eq_true rfl) (Nat.le_of_ble_eq_true rfl) (Nat.le_of_ble_eq_true rfl) hlocks (Nat.le_of_ble_eq_true rfl) (Nat.le_of_ble_eq_true rfl)
def f_X6_rollBack (N : Nat) (K len : Nat → Nat) (a0 : Nat) (M : ZM) : Option ((Nat ⊕ Int32) × ZM) := f_X6_rollBack_0 N K len a0 M
set_option maxRecDepth 100000 in
set_option maxHeartbeats 4000000 in
theorem m_X6_rollBack (l : Launch) (hlt : l.stackTraces = false) {D : va_G} {cy : Nat → ClassId} {ad : Nat → Nat} {L : List Nat} {K len : Nat → Nat} (hL : zSh ad L K) (N : Nat) {a0 : Nat} {M : ZM} {o : Nat ⊕ Int32} {Mr : ZM} (h : f_X6_rollBack N K len a0 M = some (o, Mr)) (sz : Nat) : vx_Met l yX6_rollBack wsX6_rollBack ({ frames := 6, cells := 1, slots := 6, locals := 90 } : Room) (zPre D cy ad L K len sz [.ref (ad a0)] M) (zY D cy ad L K len zvI o Mr sz) (zX D cy ad L K len o Mr sz) 1 6 (zA ad L sz) :=
  z_xentry hlt (Qf := fun sz => zY D cy ad L K len zvI o Mr sz) (Xf := fun sz => zX D cy ad L K len o Mr sz) (av := [.ref (ad a0)]) (by decide) rfl rfl hL (Nat.le_of_ble_eq_true rfl) (fun p e s m args below meth c C0 H locs ls hW hS hl => t_X6_rollBack_0 C0 N h hW hS (lv_sub hl [0] rfl))

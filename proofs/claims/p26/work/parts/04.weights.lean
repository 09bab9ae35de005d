/-! Walks laid by program (wip/whole/gen): X5_get, X5_put, X5_ofArc, X5_addToArc, X5_endStep, X5_stepCount, X5_keptCount, X5_keep, X5_takeBack, X6_steps, X6_sentences, X0_fill -/
def f_X5_get_0 (N : Nat) (K len : Nat → Nat) (x0 : Nat) (x1 : Int32) (M : ZM) : Option (Int32) :=
(f_X5_isFeature N x1).bind fun q1 => (
(if q1 = 0 then
some (0 : Int32)
else
zg (K x0 == 6) (
(zR M x0 0).bind fun b5 => (
zg (zok K len b5 11 x1) (
some (zI M b5 x1.toNatClampNeg))))))
set_option maxRecDepth 100000 in
set_option maxHeartbeats 4000000 in
theorem t_X5_get_0 {p : Program} {l : Launch} {e : Env} {s : State} {m : MethodId} {args : Array Value} {below : List Frame} {meth : Method} {c : Code} {D : va_G} {cy : Nat → ClassId} {ad : Nat → Nat} {L : List Nat} {K len : Nat → Nat} (C0 : zCx p s m c meth args cX5_get 2 wsX5_get RX5 (some .int) D cy ad L K) (N : Nat) {x0 : Nat} {x1 : Int32} {M : ZM} {r : Int32} (h : f_X5_get_0 N K len x0 x1 M = some r) {H : Heap} {locs : List Loc} {ls : Array Slot} (hW : zWd D cy ad L K len M H) (hS : va_S (zA ad L s.heap.size) s.heap H locs) (hl : lv_has ls 2 [(0, .ref (ad x0)), (1, .int x1)]) : W p l e (headSpec wsX5_get ({ frames := 1, cells := 0, slots := 0, locals := 20 } : Room)).room s m args below meth c H locs 0 0 (MQ below (zQi D cy ad L K len r M s.heap.size) args s 0 0 (zA ad L s.heap.size)) (F0 m 0 ls []) := by
  obtain ⟨hx, hb, hr, hml, hown, hts, hlocks, hK, hL, hE⟩ := id C0
  have hinX5 : ∀ w ∈ wsX50, w ∈ wsX5_get := by decide +kernel
  unfold f_X5_get_0 at h
  refine lv_iload_n hx hb dX5_get_0 rfl (lv_at hl 1 rfl) ?_
  obtain ⟨q1, e2, h⟩ := zb_some h
  refine z_calli hS (va_runS (As := [.int x1]) (rest := []) ⟨hx, hb, hml, hown, hts⟩ (m_X5_isFeature l (M := M) hL N e2 H.size) (va_cwS 1 hts gX5_get_X5_isFeature rfl rfl rfl (by decide +kernel) ⟨Nat.le_of_ble_eq_true rfl, Nat.le_of_ble_eq_true rfl⟩) (z_preS hK hE hW hS [.int x1]) rfl rfl hl.1 rfl (lv_room (Nat.le_of_ble_eq_true rfl)) dX5_get_1 ⟨Nat.le_of_ble_eq_true rfl, Nat.le_of_ble_eq_true rfl⟩) (fun H locs hW hS => ?_)
  refine lv_if_eq (tgt := 16) hx hb dX5_get_4 (by decide) (fun c3 => ?_) (fun c3 => ?_)
  · have h := zip c3 h
    refine lv_iconst (v := 0) hx hb dX5_get_16 (by decide) ?_
    exact z_iret hx hb hr hlocks hW hS (Option.some.inj h) rfl dX5_get_17
  · have h := zin c3 h
    refine lv_aload_n hx hb dX5_get_7 rfl (lv_at hl 0 rfl) ?_
    obtain ⟨g4, h⟩ := zg_some h
    obtain ⟨b5, e6, h⟩ := zb_some h
    refine z_get (own := RX5) (C := RX5) (T := TX5) (N := 8) (ci := 5) hx hb hts hinX5 hown hK hL hW 0 (zK_of g4) rfl (by decide) (by decide) rfl (hts (.fieldLink RX5 9 "ArcLight$Weights" "now" "[I") (by decide +kernel)) (v := .ref (ad b5)) (zhvR e6 rfl) dX5_get_8 ?_
    refine lv_iload_n hx hb dX5_get_11 rfl (lv_at hl 1 rfl) ?_
    obtain ⟨g7, h⟩ := zg_some h
    refine z_iald hx hb hK hL hW g7 dX5_get_12 ?_
    refine lv_goto (tgt := 17) hx hb dX5_get_13 (by decide) ?_
    exact z_iret hx hb hr hlocks hW hS (Option.some.inj h) rfl dX5_get_17
def f_X5_get (N : Nat) (K len : Nat → Nat) (a0 : Nat) (a1 : Int32) (M : ZM) : Option (Int32) := f_X5_get_0 N K len a0 a1 M
set_option maxRecDepth 100000 in
set_option maxHeartbeats 4000000 in
theorem m_X5_get (l : Launch) {D : va_G} {cy : Nat → ClassId} {ad : Nat → Nat} {L : List Nat} {K len : Nat → Nat} (hL : zSh ad L K) (N : Nat) {a0 : Nat} {a1 : Int32} {M : ZM} {r : Int32} (h : f_X5_get N K len a0 a1 M = some r) (sz : Nat) : Met l yX5_get wsX5_get ({ frames := 1, cells := 0, slots := 0, locals := 20 } : Room) (zPre D cy ad L K len sz [.ref (ad a0), .int a1] M) (zQi D cy ad L K len r M sz) 0 0 (zA ad L sz) :=
  z_entry (Qf := fun sz => zQi D cy ad L K len r M sz) (av := [.ref (ad a0), .int a1]) (by decide) rfl rfl hL (Nat.le_of_ble_eq_true rfl) (fun p e s m args below meth c C0 H locs ls hW hS hl => t_X5_get_0 C0 N h hW hS (lv_sub hl [0, 1] rfl))
def f_X5_put_0 (N : Nat) (K len : Nat → Nat) (x0 : Nat) (x1 : Int32) (x2 : Int32) (M : ZM) : Option (ZM) :=
(f_X5_isFeature N x1).bind fun q1 => (
(if q1 = 0 then
some M
else
zg (K x0 == 6) (
(zR M x0 0).bind fun b5 => (
zg (zok K len b5 11 x1) (
zl (zsI M b5 x1.toNatClampNeg x2) fun M8 => (
some M8))))))
set_option maxRecDepth 100000 in
set_option maxHeartbeats 4000000 in
theorem t_X5_put_0 {p : Program} {l : Launch} {e : Env} {s : State} {m : MethodId} {args : Array Value} {below : List Frame} {meth : Method} {c : Code} {D : va_G} {cy : Nat → ClassId} {ad : Nat → Nat} {L : List Nat} {K len : Nat → Nat} (C0 : zCx p s m c meth args cX5_put 3 wsX5_put RX5 none D cy ad L K) (N : Nat) {x0 : Nat} {x1 : Int32} {x2 : Int32} {M : ZM} {Mr : ZM} (h : f_X5_put_0 N K len x0 x1 x2 M = some Mr) {H : Heap} {locs : List Loc} {ls : Array Slot} (hW : zWd D cy ad L K len M H) (hS : va_S (zA ad L s.heap.size) s.heap H locs) (hl : lv_has ls 3 [(0, .ref (ad x0)), (1, .int x1), (2, .int x2)]) : W p l e (headSpec wsX5_put ({ frames := 1, cells := 0, slots := 0, locals := 20 } : Room)).room s m args below meth c H locs 0 0 (MQ below (zQv D cy ad L K len Mr s.heap.size) args s 0 0 (zA ad L s.heap.size)) (F0 m 0 ls []) := by
  obtain ⟨hx, hb, hr, hml, hown, hts, hlocks, hK, hL, hE⟩ := id C0
  have hinX5 : ∀ w ∈ wsX50, w ∈ wsX5_put := by decide +kernel
  unfold f_X5_put_0 at h
  refine lv_iload_n hx hb dX5_put_0 rfl (lv_at hl 1 rfl) ?_
  obtain ⟨q1, e2, h⟩ := zb_some h
  refine z_calli hS (va_runS (As := [.int x1]) (rest := []) ⟨hx, hb, hml, hown, hts⟩ (m_X5_isFeature l (M := M) hL N e2 H.size) (va_cwS 1 hts gX5_put_X5_isFeature rfl rfl rfl (by decide +kernel) ⟨Nat.le_of_ble_eq_true rfl, Nat.le_of_ble_eq_true rfl⟩) (z_preS hK hE hW hS [.int x1]) rfl rfl hl.1 rfl (lv_room (Nat.le_of_ble_eq_true rfl)) dX5_put_1 ⟨Nat.le_of_ble_eq_true rfl, Nat.le_of_ble_eq_true rfl⟩) (fun H locs hW hS => ?_)
  refine lv_if_eq (tgt := 14) hx hb dX5_put_4 (by decide) (fun c3 => ?_) (fun c3 => ?_)
  · have h := zip c3 h
    exact z_vret hx hb hr hlocks hW hS (Option.some.inj h) dX5_put_14
  · have h := zin c3 h
    refine lv_aload_n hx hb dX5_put_7 rfl (lv_at hl 0 rfl) ?_
    obtain ⟨g4, h⟩ := zg_some h
    obtain ⟨b5, e6, h⟩ := zb_some h
    refine z_get (own := RX5) (C := RX5) (T := TX5) (N := 8) (ci := 5) hx hb hts hinX5 hown hK hL hW 0 (zK_of g4) rfl (by decide) (by decide) rfl (hts (.fieldLink RX5 9 "ArcLight$Weights" "now" "[I") (by decide +kernel)) (v := .ref (ad b5)) (zhvR e6 rfl) dX5_put_8 ?_
    refine lv_iload_n hx hb dX5_put_11 rfl (lv_at hl 1 rfl) ?_
    refine lv_iload_n hx hb dX5_put_12 rfl (lv_at hl 2 rfl) ?_
    obtain ⟨g7, h⟩ := zg_some h
    refine z_iast hx hb hK hL hW hS g7 dX5_put_13 (fun H locs hW hS => ?_)
    obtain ⟨M8, eM9, h⟩ := zl_some h
    rw [← eM9] at hW
    exact z_vret hx hb hr hlocks hW hS (Option.some.inj h) dX5_put_14
def f_X5_put (N : Nat) (K len : Nat → Nat) (a0 : Nat) (a1 : Int32) (a2 : Int32) (M : ZM) : Option (ZM) := f_X5_put_0 N K len a0 a1 a2 M
set_option maxRecDepth 100000 in
set_option maxHeartbeats 4000000 in
theorem m_X5_put (l : Launch) {D : va_G} {cy : Nat → ClassId} {ad : Nat → Nat} {L : List Nat} {K len : Nat → Nat} (hL : zSh ad L K) (N : Nat) {a0 : Nat} {a1 : Int32} {a2 : Int32} {M : ZM} {Mr : ZM} (h : f_X5_put N K len a0 a1 a2 M = some Mr) (sz : Nat) : Met l yX5_put wsX5_put ({ frames := 1, cells := 0, slots := 0, locals := 20 } : Room) (zPre D cy ad L K len sz [.ref (ad a0), .int a1, .int a2] M) (zQv D cy ad L K len Mr sz) 0 0 (zA ad L sz) :=
  z_entry (Qf := fun sz => zQv D cy ad L K len Mr sz) (av := [.ref (ad a0), .int a1, .int a2]) (by decide) rfl rfl hL (Nat.le_of_ble_eq_true rfl) (fun p e s m args below meth c C0 H locs ls hW hS hl => t_X5_put_0 C0 N h hW hS (lv_sub hl [0, 1, 2] rfl))
def f_X5_ofArc_0 (N : Nat) (K len : Nat → Nat) (x0 : Nat) (x1 : Nat) (x2 : Int32) (x3 : Int32) (M : ZM) : Option (Int32) :=
(f_X2_byKinds N K len x1 x2 x3 M).bind fun q1 => (
zg (K x1 == 3) (
(f_X5_get N K len x0 q1 M).bind fun q4 => (
zg (K x0 == 6) (
(f_X6_byDistance N x2 x3).bind fun q7 => (
(f_X5_get N K len x0 q7 M).bind fun q9 => (
some (q4 + q9)))))))
set_option maxRecDepth 100000 in
set_option maxHeartbeats 4000000 in
theorem t_X5_ofArc_0 {p : Program} {l : Launch} {e : Env} {s : State} {m : MethodId} {args : Array Value} {below : List Frame} {meth : Method} {c : Code} {D : va_G} {cy : Nat → ClassId} {ad : Nat → Nat} {L : List Nat} {K len : Nat → Nat} (C0 : zCx p s m c meth args cX5_ofArc 4 wsX5_ofArc RX5 (some .int) D cy ad L K) (N : Nat) {x0 : Nat} {x1 : Nat} {x2 : Int32} {x3 : Int32} {M : ZM} {r : Int32} (h : f_X5_ofArc_0 N K len x0 x1 x2 x3 M = some r) {H : Heap} {locs : List Loc} {ls : Array Slot} (hW : zWd D cy ad L K len M H) (hS : va_S (zA ad L s.heap.size) s.heap H locs) (hl : lv_has ls 4 [(0, .ref (ad x0)), (1, .ref (ad x1)), (2, .int x2), (3, .int x3)]) : W p l e (headSpec wsX5_ofArc ({ frames := 3, cells := 0, slots := 0, locals := 63 } : Room)).room s m args below meth c H locs 0 0 (MQ below (zQi D cy ad L K len r M s.heap.size) args s 0 0 (zA ad L s.heap.size)) (F0 m 0 ls []) := by
  obtain ⟨hx, hb, hr, hml, hown, hts, hlocks, hK, hL, hE⟩ := id C0
  unfold f_X5_ofArc_0 at h
  refine lv_aload_n hx hb dX5_ofArc_0 rfl (lv_at hl 0 rfl) ?_
  refine lv_aload_n hx hb dX5_ofArc_1 rfl (lv_at hl 1 rfl) ?_
  refine lv_iload_n hx hb dX5_ofArc_2 rfl (lv_at hl 2 rfl) ?_
  refine lv_iload_n hx hb dX5_ofArc_3 rfl (lv_at hl 3 rfl) ?_
  obtain ⟨q1, e2, h⟩ := zb_some h
  obtain ⟨g3, h⟩ := zg_some h
  refine z_calli hS (va_runV (As := [.int x2, .int x3]) (rest := [.ref (ad x0)]) ⟨hx, hb, hml, hown, hts⟩ (m_X2_byKinds l hL N e2 H.size) (cwV 2 hts gX5_ofArc_X2_byKinds rfl rfl rfl (by decide +kernel) ⟨Nat.le_of_ble_eq_true rfl, Nat.le_of_ble_eq_true rfl⟩) (z_preV (q := (RX2, TX2, 4)) hK hL hE hW hS (zK_of g3) (by decide) rfl [.int x2, .int x3]) rfl rfl hl.1 rfl (lv_room (Nat.le_of_ble_eq_true rfl)) dX5_ofArc_4 ⟨Nat.le_of_ble_eq_true rfl, Nat.le_of_ble_eq_true rfl⟩) (fun H locs hW hS => ?_)
  obtain ⟨q4, e5, h⟩ := zb_some h
  obtain ⟨g6, h⟩ := zg_some h
  refine z_calli hS (va_runV (As := [.int q1]) (rest := []) ⟨hx, hb, hml, hown, hts⟩ (m_X5_get l hL N e5 H.size) (cwV 1 hts gX5_ofArc_X5_get rfl rfl rfl (by decide +kernel) ⟨Nat.le_of_ble_eq_true rfl, Nat.le_of_ble_eq_true rfl⟩) (z_preV (q := (RX5, TX5, 8)) hK hL hE hW hS (zK_of g6) (by decide) rfl [.int q1]) rfl rfl hl.1 rfl (lv_room (Nat.le_of_ble_eq_true rfl)) dX5_ofArc_7 ⟨Nat.le_of_ble_eq_true rfl, Nat.le_of_ble_eq_true rfl⟩) (fun H locs hW hS => ?_)
  refine lv_aload_n hx hb dX5_ofArc_10 rfl (lv_at hl 0 rfl) ?_
  refine lv_iload_n hx hb dX5_ofArc_11 rfl (lv_at hl 2 rfl) ?_
  refine lv_iload_n hx hb dX5_ofArc_12 rfl (lv_at hl 3 rfl) ?_
  obtain ⟨q7, e8, h⟩ := zb_some h
  refine z_calli hS (va_runSN (As := [.int x2, .int x3]) (rest := [.ref (ad x0), .int q4]) ⟨hx, hb, hml, hown, hts⟩ (m_X6_byDistance l (M := M) hL N e8 H.size) ⟨va_cnB (host := "ArcLight") 2 hts gX5_ofArc_X6_byDistance_n56 rfl rfl rfl (hE.1 (.methodLinkNest RX5 56 yX6_byDistance "ArcLight") (by decide +kernel)) (hts (.initialized RX6) (by decide +kernel)) (by decide +kernel) ⟨Nat.le_of_ble_eq_true rfl, Nat.le_of_ble_eq_true rfl⟩, hts (.static yX6_byDistance) (by decide +kernel), trivial⟩ (z_preS hK hE hW hS [.int x2, .int x3]) rfl rfl hl.1 rfl (lv_room (Nat.le_of_ble_eq_true rfl)) dX5_ofArc_13 ⟨Nat.le_of_ble_eq_true rfl, Nat.le_of_ble_eq_true rfl⟩) (fun H locs hW hS => ?_)
  obtain ⟨q9, e10, h⟩ := zb_some h
  refine z_calli hS (va_runV (As := [.int q7]) (rest := [.int q4]) ⟨hx, hb, hml, hown, hts⟩ (m_X5_get l hL N e10 H.size) (cwV 1 hts gX5_ofArc_X5_get rfl rfl rfl (by decide +kernel) ⟨Nat.le_of_ble_eq_true rfl, Nat.le_of_ble_eq_true rfl⟩) (z_preV (q := (RX5, TX5, 8)) hK hL hE hW hS (zK_of g6) (by decide) rfl [.int q7]) rfl rfl hl.1 rfl (lv_room (Nat.le_of_ble_eq_true rfl)) dX5_ofArc_16 ⟨Nat.le_of_ble_eq_true rfl, Nat.le_of_ble_eq_true rfl⟩) (fun H locs hW hS => ?_)
  refine lv_iadd hx hb dX5_ofArc_19 ?_
  exact z_iret hx hb hr hlocks hW hS (Option.some.inj h) rfl dX5_ofArc_20
def f_X5_ofArc (N : Nat) (K len : Nat → Nat) (a0 : Nat) (a1 : Nat) (a2 : Int32) (a3 : Int32) (M : ZM) : Option (Int32) := f_X5_ofArc_0 N K len a0 a1 a2 a3 M
set_option maxRecDepth 100000 in
set_option maxHeartbeats 4000000 in
theorem m_X5_ofArc (l : Launch) {D : va_G} {cy : Nat → ClassId} {ad : Nat → Nat} {L : List Nat} {K len : Nat → Nat} (hL : zSh ad L K) (N : Nat) {a0 : Nat} {a1 : Nat} {a2 : Int32} {a3 : Int32} {M : ZM} {r : Int32} (h : f_X5_ofArc N K len a0 a1 a2 a3 M = some r) (sz : Nat) : Met l yX5_ofArc wsX5_ofArc ({ frames := 3, cells := 0, slots := 0, locals := 63 } : Room) (zPre D cy ad L K len sz [.ref (ad a0), .ref (ad a1), .int a2, .int a3] M) (zQi D cy ad L K len r M sz) 0 0 (zA ad L sz) :=
  z_entry (Qf := fun sz => zQi D cy ad L K len r M sz) (av := [.ref (ad a0), .ref (ad a1), .int a2, .int a3]) (by decide) rfl rfl hL (Nat.le_of_ble_eq_true rfl) (fun p e s m args below meth c C0 H locs ls hW hS hl => t_X5_ofArc_0 C0 N h hW hS (lv_sub hl [0, 1, 2, 3] rfl))
def f_X5_addToArc_0 (N : Nat) (K len : Nat → Nat) (x0 : Nat) (x1 : Nat) (x2 : Int32) (x3 : Int32) (x4 : Int32) (M : ZM) : Option (ZM) :=
(f_X2_byKinds N K len x1 x2 x3 M).bind fun q1 => (
zg (K x1 == 3) (
(f_X6_byDistance N x2 x3).bind fun q4 => (
(f_X5_get N K len x0 q1 M).bind fun q6 => (
zg (K x0 == 6) (
(f_X5_put N K len x0 q1 (q6 + x4) M).bind fun M11 => (
(f_X5_get N K len x0 q4 M11).bind fun q12 => (
(f_X5_put N K len x0 q4 (q12 + x4) M11).bind fun M16 => (
some M16))))))))
set_option maxRecDepth 100000 in
set_option maxHeartbeats 4000000 in
theorem t_X5_addToArc_0 {p : Program} {l : Launch} {e : Env} {s : State} {m : MethodId} {args : Array Value} {below : List Frame} {meth : Method} {c : Code} {D : va_G} {cy : Nat → ClassId} {ad : Nat → Nat} {L : List Nat} {K len : Nat → Nat} (C0 : zCx p s m c meth args cX5_addToArc 7 wsX5_addToArc RX5 none D cy ad L K) (N : Nat) {x0 : Nat} {x1 : Nat} {x2 : Int32} {x3 : Int32} {x4 : Int32} {M : ZM} {Mr : ZM} (h : f_X5_addToArc_0 N K len x0 x1 x2 x3 x4 M = some Mr) {H : Heap} {locs : List Loc} {ls : Array Slot} (hW : zWd D cy ad L K len M H) (hS : va_S (zA ad L s.heap.size) s.heap H locs) (hl : lv_has ls 7 [(0, .ref (ad x0)), (1, .ref (ad x1)), (2, .int x2), (3, .int x3), (4, .int x4)]) : W p l e (headSpec wsX5_addToArc ({ frames := 3, cells := 0, slots := 0, locals := 63 } : Room)).room s m args below meth c H locs 0 0 (MQ below (zQv D cy ad L K len Mr s.heap.size) args s 0 0 (zA ad L s.heap.size)) (F0 m 0 ls []) := by
  obtain ⟨hx, hb, hr, hml, hown, hts, hlocks, hK, hL, hE⟩ := id C0
  unfold f_X5_addToArc_0 at h
  refine lv_aload_n hx hb dX5_addToArc_0 rfl (lv_at hl 1 rfl) ?_
  refine lv_iload_n hx hb dX5_addToArc_1 rfl (lv_at hl 2 rfl) ?_
  refine lv_iload_n hx hb dX5_addToArc_2 rfl (lv_at hl 3 rfl) ?_
  obtain ⟨q1, e2, h⟩ := zb_some h
  obtain ⟨g3, h⟩ := zg_some h
  refine z_calli hS (va_runV (As := [.int x2, .int x3]) (rest := []) ⟨hx, hb, hml, hown, hts⟩ (m_X2_byKinds l hL N e2 H.size) (cwV 2 hts gX5_addToArc_X2_byKinds rfl rfl rfl (by decide +kernel) ⟨Nat.le_of_ble_eq_true rfl, Nat.le_of_ble_eq_true rfl⟩) (z_preV (q := (RX2, TX2, 4)) hK hL hE hW hS (zK_of g3) (by decide) rfl [.int x2, .int x3]) rfl rfl hl.1 rfl (lv_room (Nat.le_of_ble_eq_true rfl)) dX5_addToArc_3 ⟨Nat.le_of_ble_eq_true rfl, Nat.le_of_ble_eq_true rfl⟩) (fun H locs hW hS => ?_)
  refine lv_istore (lv' := [(5, .int q1), (0, .ref (ad x0)), (1, .ref (ad x1)), (2, .int x2), (3, .int x3), (4, .int x4)]) hx hb dX5_addToArc_6 hl (by decide) rfl (fun ls hl => ?_)
  refine lv_iload_n hx hb dX5_addToArc_8 rfl (lv_at hl 3 rfl) ?_
  refine lv_iload_n hx hb dX5_addToArc_9 rfl (lv_at hl 4 rfl) ?_
  obtain ⟨q4, e5, h⟩ := zb_some h
  refine z_calli hS (va_runSN (As := [.int x2, .int x3]) (rest := []) ⟨hx, hb, hml, hown, hts⟩ (m_X6_byDistance l (M := M) hL N e5 H.size) ⟨va_cnB (host := "ArcLight") 2 hts gX5_addToArc_X6_byDistance_n56 rfl rfl rfl (hE.1 (.methodLinkNest RX5 56 yX6_byDistance "ArcLight") (by decide +kernel)) (hts (.initialized RX6) (by decide +kernel)) (by decide +kernel) ⟨Nat.le_of_ble_eq_true rfl, Nat.le_of_ble_eq_true rfl⟩, hts (.static yX6_byDistance) (by decide +kernel), trivial⟩ (z_preS hK hE hW hS [.int x2, .int x3]) rfl rfl hl.1 rfl (lv_room (Nat.le_of_ble_eq_true rfl)) dX5_addToArc_10 ⟨Nat.le_of_ble_eq_true rfl, Nat.le_of_ble_eq_true rfl⟩) (fun H locs hW hS => ?_)
  refine lv_istore (lv' := [(6, .int q4), (5, .int q1), (0, .ref (ad x0)), (1, .ref (ad x1)), (2, .int x2), (3, .int x3), (4, .int x4)]) hx hb dX5_addToArc_13 hl (by decide) rfl (fun ls hl => ?_)
  refine lv_aload_n hx hb dX5_addToArc_15 rfl (lv_at hl 2 rfl) ?_
  refine lv_iload hx hb dX5_addToArc_16 (lv_at hl 1 rfl) ?_
  refine lv_aload_n hx hb dX5_addToArc_18 rfl (lv_at hl 2 rfl) ?_
  refine lv_iload hx hb dX5_addToArc_19 (lv_at hl 1 rfl) ?_
  obtain ⟨q6, e7, h⟩ := zb_some h
  obtain ⟨g8, h⟩ := zg_some h
  refine z_calli hS (va_runV (As := [.int q1]) (rest := [.int q1, .ref (ad x0)]) ⟨hx, hb, hml, hown, hts⟩ (m_X5_get l hL N e7 H.size) (cwV 1 hts gX5_addToArc_X5_get rfl rfl rfl (by decide +kernel) ⟨Nat.le_of_ble_eq_true rfl, Nat.le_of_ble_eq_true rfl⟩) (z_preV (q := (RX5, TX5, 8)) hK hL hE hW hS (zK_of g8) (by decide) rfl [.int q1]) rfl rfl hl.1 rfl (lv_room (Nat.le_of_ble_eq_true rfl)) dX5_addToArc_21 ⟨Nat.le_of_ble_eq_true rfl, Nat.le_of_ble_eq_true rfl⟩) (fun H locs hW hS => ?_)
  refine lv_iload hx hb dX5_addToArc_24 (lv_at hl 6 rfl) ?_
  refine lv_iadd hx hb dX5_addToArc_26 ?_
  obtain ⟨M11, e10, h⟩ := zb_some h
  refine z_callv hS (va_runV (As := [.int q1, .int (q6 + x4)]) (rest := []) ⟨hx, hb, hml, hown, hts⟩ (m_X5_put l hL N e10 H.size) (cwV 2 hts gX5_addToArc_X5_put rfl rfl rfl (by decide +kernel) ⟨Nat.le_of_ble_eq_true rfl, Nat.le_of_ble_eq_true rfl⟩) (z_preV (q := (RX5, TX5, 8)) hK hL hE hW hS (zK_of g8) (by decide) rfl [.int q1, .int (q6 + x4)]) rfl rfl hl.1 rfl (lv_room (Nat.le_of_ble_eq_true rfl)) dX5_addToArc_27 ⟨Nat.le_of_ble_eq_true rfl, Nat.le_of_ble_eq_true rfl⟩) (fun H locs hW hS => ?_)
  refine lv_aload_n hx hb dX5_addToArc_30 rfl (lv_at hl 2 rfl) ?_
  refine lv_iload hx hb dX5_addToArc_31 (lv_at hl 0 rfl) ?_
  refine lv_aload_n hx hb dX5_addToArc_33 rfl (lv_at hl 2 rfl) ?_
  refine lv_iload hx hb dX5_addToArc_34 (lv_at hl 0 rfl) ?_
  obtain ⟨q12, e13, h⟩ := zb_some h
  refine z_calli hS (va_runV (As := [.int q4]) (rest := [.int q4, .ref (ad x0)]) ⟨hx, hb, hml, hown, hts⟩ (m_X5_get l hL N e13 H.size) (cwV 1 hts gX5_addToArc_X5_get rfl rfl rfl (by decide +kernel) ⟨Nat.le_of_ble_eq_true rfl, Nat.le_of_ble_eq_true rfl⟩) (z_preV (q := (RX5, TX5, 8)) hK hL hE hW hS (zK_of g8) (by decide) rfl [.int q4]) rfl rfl hl.1 rfl (lv_room (Nat.le_of_ble_eq_true rfl)) dX5_addToArc_36 ⟨Nat.le_of_ble_eq_true rfl, Nat.le_of_ble_eq_true rfl⟩) (fun H locs hW hS => ?_)
  refine lv_iload hx hb dX5_addToArc_39 (lv_at hl 6 rfl) ?_
  refine lv_iadd hx hb dX5_addToArc_41 ?_
  obtain ⟨M16, e15, h⟩ := zb_some h
  refine z_callv hS (va_runV (As := [.int q4, .int (q12 + x4)]) (rest := []) ⟨hx, hb, hml, hown, hts⟩ (m_X5_put l hL N e15 H.size) (cwV 2 hts gX5_addToArc_X5_put rfl rfl rfl (by decide +kernel) ⟨Nat.le_of_ble_eq_true rfl, Nat.le_of_ble_eq_true rfl⟩) (z_preV (q := (RX5, TX5, 8)) hK hL hE hW hS (zK_of g8) (by decide) rfl [.int q4, .int (q12 + x4)]) rfl rfl hl.1 rfl (lv_room (Nat.le_of_ble_eq_true rfl)) dX5_addToArc_42 ⟨Nat.le_of_ble_eq_true rfl, Nat.le_of_ble_eq_true rfl⟩) (fun H locs hW hS => ?_)
  exact z_vret hx hb hr hlocks hW hS (Option.some.inj h) dX5_addToArc_45
def f_X5_addToArc (N : Nat) (K len : Nat → Nat) (a0 : Nat) (a1 : Nat) (a2 : Int32) (a3 : Int32) (a4 : Int32) (M : ZM) : Option (ZM) := f_X5_addToArc_0 N K len a0 a1 a2 a3 a4 M
set_option maxRecDepth 100000 in
set_option maxHeartbeats 4000000 in
theorem m_X5_addToArc (l : Launch) {D : va_G} {cy : Nat → ClassId} {ad : Nat → Nat} {L : List Nat} {K len : Nat → Nat} (hL : zSh ad L K) (N : Nat) {a0 : Nat} {a1 : Nat} {a2 : Int32} {a3 : Int32} {a4 : Int32} {M : ZM} {Mr : ZM} (h : f_X5_addToArc N K len a0 a1 a2 a3 a4 M = some Mr) (sz : Nat) : Met l yX5_addToArc wsX5_addToArc ({ frames := 3, cells := 0, slots := 0, locals := 63 } : Room) (zPre D cy ad L K len sz [.ref (ad a0), .ref (ad a1), .int a2, .int a3, .int a4] M) (zQv D cy ad L K len Mr sz) 0 0 (zA ad L sz) :=
  z_entry (Qf := fun sz => zQv D cy ad L K len Mr sz) (av := [.ref (ad a0), .ref (ad a1), .int a2, .int a3, .int a4]) (by decide) rfl rfl hL (Nat.le_of_ble_eq_true rfl) (fun p e s m args below meth c C0 H locs ls hW hS hl => t_X5_addToArc_0 C0 N h hW hS (lv_sub hl [0, 1, 2, 3, 4] rfl))
def f_X5_endStep_2 (N : Nat) (K len : Nat → Nat) : Nat → Nat → Int32 → ZM → Option (ZM)
  | 0, _, _, _ => none
  | n + 1, x0, x1, M =>
    (if (28 : Int32) ≤ x1 then
    zg (K x0 == 6) (
    zl (zsI M x0 2 ((zI M x0 2) + (1 : Int32))) fun M3 => (
    some M3))
    else
    zg (K x0 == 6) (
    (zR M x0 1).bind fun b6 => (
    zg (zok K len b6 12 x1) (
    (zR M x0 0).bind fun b9 => (
    zg (zok K len b9 11 x1) (
    zl (zsJ M b6 x1.toNatClampNeg ((zJ M b6 x1.toNatClampNeg) + (zI M b9 x1.toNatClampNeg).toInt64)) fun M12 => (
    f_X5_endStep_2 N K len  n x0 (x1 + 1) M12)))))))
set_option maxRecDepth 100000 in
set_option maxHeartbeats 4000000 in
theorem t_X5_endStep_2 {p : Program} {l : Launch} {e : Env} {s : State} {m : MethodId} {args : Array Value} {below : List Frame} {meth : Method} {c : Code} {D : va_G} {cy : Nat → ClassId} {ad : Nat → Nat} {L : List Nat} {K len : Nat → Nat} (C0 : zCx p s m c meth args cX5_endStep 2 wsX5_endStep RX5 none D cy ad L K) (N : Nat) {Mr : ZM} : ∀ (n : Nat) {x0 : Nat} {x1 : Int32} {M : ZM}, f_X5_endStep_2 N K len n x0 x1 M = some Mr → ∀ {H : Heap} {locs : List Loc} {ls : Array Slot}, zWd D cy ad L K len M H → va_S (zA ad L s.heap.size) s.heap H locs → lv_has ls 2 [(0, .ref (ad x0)), (1, .int x1)] → W p l e (headSpec wsX5_endStep ({ frames := 0, cells := 0, slots := 0, locals := 0 } : Room)).room s m args below meth c H locs 0 0 (MQ below (zQv D cy ad L K len Mr s.heap.size) args s 0 0 (zA ad L s.heap.size)) (F0 m 2 ls []) := by
  obtain ⟨hx, hb, hr, hml, hown, hts, hlocks, hK, hL, hE⟩ := id C0
  have hinX5 : ∀ w ∈ wsX50, w ∈ wsX5_endStep := by decide +kernel
  intro n
  induction n with
  | zero =>
    intro x0 x1 M h
    cases (show (none : Option (ZM)) = some Mr from h)
  | succ n ih =>
    intro x0 x1 M h H locs ls hW hS hl
    rw [f_X5_endStep_2] at h
    refine lv_iload_n hx hb dX5_endStep_2 rfl (lv_at hl 1 rfl) ?_
    refine lv_bipush (v := 28) hx hb dX5_endStep_3 (by decide) ?_
    refine lv_icmp_ge (tgt := 30) hx hb dX5_endStep_5 (by decide) (fun c1 => ?_) (fun c1 => ?_)
    · have h := zip c1 h
      refine lv_aload_n hx hb dX5_endStep_30 rfl (lv_at hl 0 rfl) ?_
      refine lv_dup hx hb dX5_endStep_31 rfl ?_
      obtain ⟨g2, h⟩ := zg_some h
      refine z_get (own := RX5) (C := RX5) (T := TX5) (N := 8) (ci := 5) hx hb hts hinX5 hown hK hL hW 2 (zK_of g2) rfl (by decide) (by decide) rfl (hts (.fieldLink RX5 19 "ArcLight$Weights" "steps" "I") (by decide +kernel)) (v := .int (zI M x0 2)) rfl dX5_endStep_32 ?_
      refine lv_iconst (v := 1) hx hb dX5_endStep_35 (by decide) ?_
      refine lv_iadd hx hb dX5_endStep_36 ?_
      refine z_put (own := RX5) (C := RX5) (T := TX5) (N := 8) (ci := 5) (v := .int ((zI M x0 2) + (1 : Int32))) (M' := zsI M x0 2 ((zI M x0 2) + (1 : Int32))) hx hb hts hinX5 tyX5 tyX5_ok nmX5 hown hK hL hW hS 2 (zK_of g2) rfl (by decide) (by decide) rfl (hts (.fieldLink RX5 19 "ArcLight$Weights" "steps" "I") (by decide +kernel)) rfl (ty := .int) (by decide +kernel) rfl rfl (Nat.le_of_ble_eq_true rfl) dX5_endStep_37 (zM_I (zK_of g2) (by decide) rfl) (fun H locs hW hS => ?_)
      obtain ⟨M3, eM4, h⟩ := zl_some h
      rw [← eM4] at hW
      exact z_vret hx hb hr hlocks hW hS (Option.some.inj h) dX5_endStep_40
    · have h := zin c1 h
      refine lv_aload_n hx hb dX5_endStep_8 rfl (lv_at hl 0 rfl) ?_
      obtain ⟨g5, h⟩ := zg_some h
      obtain ⟨b6, e7, h⟩ := zb_some h
      refine z_get (own := RX5) (C := RX5) (T := TX5) (N := 8) (ci := 5) hx hb hts hinX5 hown hK hL hW 1 (zK_of g5) rfl (by decide) (by decide) rfl (hts (.fieldLink RX5 15 "ArcLight$Weights" "sums" "[J") (by decide +kernel)) (v := .ref (ad b6)) (zhvR e7 rfl) dX5_endStep_9 ?_
      refine lv_iload_n hx hb dX5_endStep_12 rfl (lv_at hl 1 rfl) ?_
      refine lv_dup2_11 hx hb dX5_endStep_13 rfl rfl ?_
      obtain ⟨g8, h⟩ := zg_some h
      refine z_lald hx hb hK hL hW g8 dX5_endStep_14 ?_
      refine lv_aload_n hx hb dX5_endStep_15 rfl (lv_at hl 0 rfl) ?_
      obtain ⟨b9, e10, h⟩ := zb_some h
      refine z_get (own := RX5) (C := RX5) (T := TX5) (N := 8) (ci := 5) hx hb hts hinX5 hown hK hL hW 0 (zK_of g5) rfl (by decide) (by decide) rfl (hts (.fieldLink RX5 9 "ArcLight$Weights" "now" "[I") (by decide +kernel)) (v := .ref (ad b9)) (zhvR e10 rfl) dX5_endStep_16 ?_
      refine lv_iload_n hx hb dX5_endStep_19 rfl (lv_at hl 1 rfl) ?_
      obtain ⟨g11, h⟩ := zg_some h
      refine z_iald hx hb hK hL hW g11 dX5_endStep_20 ?_
      refine lv_i2l hx hb dX5_endStep_21 rfl ?_
      refine lv_ladd hx hb dX5_endStep_22 ?_
      refine z_last hx hb hK hL hW hS g8 dX5_endStep_23 (fun H locs hW hS => ?_)
      obtain ⟨M12, eM13, h⟩ := zl_some h
      rw [← eM13] at hW
      refine lv_iinc (k := 1) (v := (x1 + 1)) (lv' := [(1, .int (x1 + 1)), (0, .ref (ad x0))]) hx hb dX5_endStep_24 hl rfl (by rw [show Int32.ofInt 1 = (1 : Int32) from by decide]) (by decide) rfl (fun ls hl => ?_)
      refine lv_goto (tgt := 2) hx hb dX5_endStep_27 (by decide) ?_
      exact ih h hW hS (lv_sub hl [1, 0] rfl)
def f_X5_endStep_0 (N : Nat) (K len : Nat → Nat) (x0 : Nat) (M : ZM) : Option (ZM) :=
f_X5_endStep_2 N K len  N x0 (0 : Int32) M
set_option maxRecDepth 100000 in
set_option maxHeartbeats 4000000 in
theorem t_X5_endStep_0 {p : Program} {l : Launch} {e : Env} {s : State} {m : MethodId} {args : Array Value} {below : List Frame} {meth : Method} {c : Code} {D : va_G} {cy : Nat → ClassId} {ad : Nat → Nat} {L : List Nat} {K len : Nat → Nat} (C0 : zCx p s m c meth args cX5_endStep 2 wsX5_endStep RX5 none D cy ad L K) (N : Nat) {x0 : Nat} {M : ZM} {Mr : ZM} (h : f_X5_endStep_0 N K len x0 M = some Mr) {H : Heap} {locs : List Loc} {ls : Array Slot} (hW : zWd D cy ad L K len M H) (hS : va_S (zA ad L s.heap.size) s.heap H locs) (hl : lv_has ls 2 [(0, .ref (ad x0))]) : W p l e (headSpec wsX5_endStep ({ frames := 0, cells := 0, slots := 0, locals := 0 } : Room)).room s m args below meth c H locs 0 0 (MQ below (zQv D cy ad L K len Mr s.heap.size) args s 0 0 (zA ad L s.heap.size)) (F0 m 0 ls []) := by
  obtain ⟨hx, hb, hr, hml, hown, hts, hlocks, hK, hL, hE⟩ := id C0
  unfold f_X5_endStep_0 at h
  refine lv_iconst (v := 0) hx hb dX5_endStep_0 (by decide) ?_
  refine lv_istore_n (lv' := [(1, .int (0 : Int32)), (0, .ref (ad x0))]) hx hb dX5_endStep_1 rfl hl (by decide) rfl (fun ls hl => ?_)
  exact t_X5_endStep_2 C0 N  N h hW hS (lv_sub hl [1, 0] rfl)
def f_X5_endStep (N : Nat) (K len : Nat → Nat) (a0 : Nat) (M : ZM) : Option (ZM) := f_X5_endStep_0 N K len a0 M
set_option maxRecDepth 100000 in
set_option maxHeartbeats 4000000 in
theorem m_X5_endStep (l : Launch) {D : va_G} {cy : Nat → ClassId} {ad : Nat → Nat} {L : List Nat} {K len : Nat → Nat} (hL : zSh ad L K) (N : Nat) {a0 : Nat} {M : ZM} {Mr : ZM} (h : f_X5_endStep N K len a0 M = some Mr) (sz : Nat) : Met l yX5_endStep wsX5_endStep ({ frames := 0, cells := 0, slots := 0, locals := 0 } : Room) (zPre D cy ad L K len sz [.ref (ad a0)] M) (zQv D cy ad L K len Mr sz) 0 0 (zA ad L sz) :=
  z_entry (Qf := fun sz => zQv D cy ad L K len Mr sz) (av := [.ref (ad a0)]) (by decide) rfl rfl hL (Nat.le_of_ble_eq_true rfl) (fun p e s m args below meth c C0 H locs ls hW hS hl => t_X5_endStep_0 C0 N h hW hS (lv_sub hl [0] rfl))
def f_X5_stepCount_0 (N : Nat) (K len : Nat → Nat) (x0 : Nat) (M : ZM) : Option (Int32) :=
zg (K x0 == 6) (
some (zI M x0 2))
set_option maxRecDepth 100000 in
set_option maxHeartbeats 4000000 in
theorem t_X5_stepCount_0 {p : Program} {l : Launch} {e : Env} {s : State} {m : MethodId} {args : Array Value} {below : List Frame} {meth : Method} {c : Code} {D : va_G} {cy : Nat → ClassId} {ad : Nat → Nat} {L : List Nat} {K len : Nat → Nat} (C0 : zCx p s m c meth args cX5_stepCount 1 wsX5_stepCount RX5 (some .int) D cy ad L K) (N : Nat) {x0 : Nat} {M : ZM} {r : Int32} (h : f_X5_stepCount_0 N K len x0 M = some r) {H : Heap} {locs : List Loc} {ls : Array Slot} (hW : zWd D cy ad L K len M H) (hS : va_S (zA ad L s.heap.size) s.heap H locs) (hl : lv_has ls 1 [(0, .ref (ad x0))]) : W p l e (headSpec wsX5_stepCount ({ frames := 0, cells := 0, slots := 0, locals := 0 } : Room)).room s m args below meth c H locs 0 0 (MQ below (zQi D cy ad L K len r M s.heap.size) args s 0 0 (zA ad L s.heap.size)) (F0 m 0 ls []) := by
  obtain ⟨hx, hb, hr, hml, hown, hts, hlocks, hK, hL, hE⟩ := id C0
  have hinX5 : ∀ w ∈ wsX50, w ∈ wsX5_stepCount := by decide +kernel
  unfold f_X5_stepCount_0 at h
  refine lv_aload_n hx hb dX5_stepCount_0 rfl (lv_at hl 0 rfl) ?_
  obtain ⟨g1, h⟩ := zg_some h
  refine z_get (own := RX5) (C := RX5) (T := TX5) (N := 8) (ci := 5) hx hb hts hinX5 hown hK hL hW 2 (zK_of g1) rfl (by decide) (by decide) rfl (hts (.fieldLink RX5 19 "ArcLight$Weights" "steps" "I") (by decide +kernel)) (v := .int (zI M x0 2)) rfl dX5_stepCount_1 ?_
  exact z_iret hx hb hr hlocks hW hS (Option.some.inj h) rfl dX5_stepCount_4
def f_X5_stepCount (N : Nat) (K len : Nat → Nat) (a0 : Nat) (M : ZM) : Option (Int32) := f_X5_stepCount_0 N K len a0 M
set_option maxRecDepth 100000 in
set_option maxHeartbeats 4000000 in
theorem m_X5_stepCount (l : Launch) {D : va_G} {cy : Nat → ClassId} {ad : Nat → Nat} {L : List Nat} {K len : Nat → Nat} (hL : zSh ad L K) (N : Nat) {a0 : Nat} {M : ZM} {r : Int32} (h : f_X5_stepCount N K len a0 M = some r) (sz : Nat) : Met l yX5_stepCount wsX5_stepCount ({ frames := 0, cells := 0, slots := 0, locals := 0 } : Room) (zPre D cy ad L K len sz [.ref (ad a0)] M) (zQi D cy ad L K len r M sz) 0 0 (zA ad L sz) :=
  z_entry (Qf := fun sz => zQi D cy ad L K len r M sz) (av := [.ref (ad a0)]) (by decide) rfl rfl hL (Nat.le_of_ble_eq_true rfl) (fun p e s m args below meth c C0 H locs ls hW hS hl => t_X5_stepCount_0 C0 N h hW hS (lv_sub hl [0] rfl))
def f_X5_keptCount_0 (N : Nat) (K len : Nat → Nat) (x0 : Nat) (M : ZM) : Option (Int32) :=
zg (K x0 == 6) (
some (zI M x0 6))
set_option maxRecDepth 100000 in
set_option maxHeartbeats 4000000 in
theorem t_X5_keptCount_0 {p : Program} {l : Launch} {e : Env} {s : State} {m : MethodId} {args : Array Value} {below : List Frame} {meth : Method} {c : Code} {D : va_G} {cy : Nat → ClassId} {ad : Nat → Nat} {L : List Nat} {K len : Nat → Nat} (C0 : zCx p s m c meth args cX5_keptCount 1 wsX5_keptCount RX5 (some .int) D cy ad L K) (N : Nat) {x0 : Nat} {M : ZM} {r : Int32} (h : f_X5_keptCount_0 N K len x0 M = some r) {H : Heap} {locs : List Loc} {ls : Array Slot} (hW : zWd D cy ad L K len M H) (hS : va_S (zA ad L s.heap.size) s.heap H locs) (hl : lv_has ls 1 [(0, .ref (ad x0))]) : W p l e (headSpec wsX5_keptCount ({ frames := 0, cells := 0, slots := 0, locals := 0 } : Room)).room s m args below meth c H locs 0 0 (MQ below (zQi D cy ad L K len r M s.heap.size) args s 0 0 (zA ad L s.heap.size)) (F0 m 0 ls []) := by
  obtain ⟨hx, hb, hr, hml, hown, hts, hlocks, hK, hL, hE⟩ := id C0
  have hinX5 : ∀ w ∈ wsX50, w ∈ wsX5_keptCount := by decide +kernel
  unfold f_X5_keptCount_0 at h
  refine lv_aload_n hx hb dX5_keptCount_0 rfl (lv_at hl 0 rfl) ?_
  obtain ⟨g1, h⟩ := zg_some h
  refine z_get (own := RX5) (C := RX5) (T := TX5) (N := 8) (ci := 5) hx hb hts hinX5 hown hK hL hW 6 (zK_of g1) rfl (by decide) (by decide) rfl (hts (.fieldLink RX5 36 "ArcLight$Weights" "kept" "I") (by decide +kernel)) (v := .int (zI M x0 6)) rfl dX5_keptCount_1 ?_
  exact z_iret hx hb hr hlocks hW hS (Option.some.inj h) rfl dX5_keptCount_4
def f_X5_keptCount (N : Nat) (K len : Nat → Nat) (a0 : Nat) (M : ZM) : Option (Int32) := f_X5_keptCount_0 N K len a0 M
set_option maxRecDepth 100000 in
set_option maxHeartbeats 4000000 in
theorem m_X5_keptCount (l : Launch) {D : va_G} {cy : Nat → ClassId} {ad : Nat → Nat} {L : List Nat} {K len : Nat → Nat} (hL : zSh ad L K) (N : Nat) {a0 : Nat} {M : ZM} {r : Int32} (h : f_X5_keptCount N K len a0 M = some r) (sz : Nat) : Met l yX5_keptCount wsX5_keptCount ({ frames := 0, cells := 0, slots := 0, locals := 0 } : Room) (zPre D cy ad L K len sz [.ref (ad a0)] M) (zQi D cy ad L K len r M sz) 0 0 (zA ad L sz) :=
  z_entry (Qf := fun sz => zQi D cy ad L K len r M sz) (av := [.ref (ad a0)]) (by decide) rfl rfl hL (Nat.le_of_ble_eq_true rfl) (fun p e s m args below meth c C0 H locs ls hW hS hl => t_X5_keptCount_0 C0 N h hW hS (lv_sub hl [0] rfl))
def f_X5_keep_86 (N : Nat) (K len : Nat → Nat) (x0 : Nat) (s0 : Int32) (s1 : Nat) (M : ZM) : Option (ZM) :=
zg (K s1 == 6) (
zl (zsI M s1 7 s0) fun M2 => (
zg (K x0 == 6) (
zl (zsI M2 x0 6 (if (20 : Int32) < ((zI M2 x0 6) + (1 : Int32)) then (20 : Int32) else ((zI M2 x0 6) + (1 : Int32)))) fun M5 => (
some M5))))
set_option maxRecDepth 100000 in
set_option maxHeartbeats 4000000 in
theorem t_X5_keep_86 {p : Program} {l : Launch} {e : Env} {s : State} {m : MethodId} {args : Array Value} {below : List Frame} {meth : Method} {c : Code} {D : va_G} {cy : Nat → ClassId} {ad : Nat → Nat} {L : List Nat} {K len : Nat → Nat} (C0 : zCx p s m c meth args cX5_keep 1 wsX5_keep RX5 none D cy ad L K) (N : Nat) {x0 : Nat} {s0 : Int32} {s1 : Nat} {M : ZM} {Mr : ZM} (h : f_X5_keep_86 N K len x0 s0 s1 M = some Mr) {H : Heap} {locs : List Loc} {ls : Array Slot} (hW : zWd D cy ad L K len M H) (hS : va_S (zA ad L s.heap.size) s.heap H locs) (hl : lv_has ls 1 [(0, .ref (ad x0))]) : W p l e (headSpec wsX5_keep ({ frames := 1, cells := 0, slots := 0, locals := 60 } : Room)).room s m args below meth c H locs 0 0 (MQ below (zQv D cy ad L K len Mr s.heap.size) args s 0 0 (zA ad L s.heap.size)) (F0 m 86 ls [.int s0, .ref (ad s1)]) := by
  obtain ⟨hx, hb, hr, hml, hown, hts, hlocks, hK, hL, hE⟩ := id C0
  have hinX5 : ∀ w ∈ wsX50, w ∈ wsX5_keep := by decide +kernel
  unfold f_X5_keep_86 at h
  obtain ⟨g1, h⟩ := zg_some h
  refine z_put (own := RX5) (C := RX5) (T := TX5) (N := 8) (ci := 5) (v := .int s0) (M' := zsI M s1 7 s0) hx hb hts hinX5 tyX5 tyX5_ok nmX5 hown hK hL hW hS 7 (zK_of g1) rfl (by decide) (by decide) rfl (hts (.fieldLink RX5 39 "ArcLight$Weights" "next" "I") (by decide +kernel)) rfl (ty := .int) (by decide +kernel) rfl rfl (Nat.le_of_ble_eq_true rfl) dX5_keep_86 (zM_I (zK_of g1) (by decide) rfl) (fun H locs hW hS => ?_)
  obtain ⟨M2, eM3, h⟩ := zl_some h
  rw [← eM3] at hW
  refine lv_aload_n hx hb dX5_keep_89 rfl (lv_at hl 0 rfl) ?_
  refine lv_aload_n hx hb dX5_keep_90 rfl (lv_at hl 0 rfl) ?_
  obtain ⟨g4, h⟩ := zg_some h
  refine z_get (own := RX5) (C := RX5) (T := TX5) (N := 8) (ci := 5) hx hb hts hinX5 hown hK hL hW 6 (zK_of g4) rfl (by decide) (by decide) rfl (hts (.fieldLink RX5 36 "ArcLight$Weights" "kept" "I") (by decide +kernel)) (v := .int (zI M2 x0 6)) rfl dX5_keep_91 ?_
  refine lv_iconst (v := 1) hx hb dX5_keep_94 (by decide) ?_
  refine lv_iadd hx hb dX5_keep_95 ?_
  refine lv_bipush (v := 20) hx hb dX5_keep_96 (by decide) ?_
  refine va_mmin (own := RX5) hx hb (hml.trans hl.1.symm) hown (hts (.methodLink RX5 72 Lib.Math.min.name) (by decide +kernel)) (hts (.static Lib.Math.min.name) (by decide +kernel)) (hts (.initialized "java/lang/Math") (by decide +kernel)) (hts (.code Lib.Math.min.name Lib.Math.min.code 2 (some .int)) (by decide +kernel)) (Nat.le_of_ble_eq_true rfl) (Nat.le_of_ble_eq_true rfl) (Nat.zero_le _) (Nat.zero_le _) dX5_keep_98 ?_
  refine z_put (own := RX5) (C := RX5) (T := TX5) (N := 8) (ci := 5) (v := .int (if (20 : Int32) < ((zI M2 x0 6) + (1 : Int32)) then (20 : Int32) else ((zI M2 x0 6) + (1 : Int32)))) (M' := zsI M2 x0 6 (if (20 : Int32) < ((zI M2 x0 6) + (1 : Int32)) then (20 : Int32) else ((zI M2 x0 6) + (1 : Int32)))) hx hb hts hinX5 tyX5 tyX5_ok nmX5 hown hK hL hW hS 6 (zK_of g4) rfl (by decide) (by decide) rfl (hts (.fieldLink RX5 36 "ArcLight$Weights" "kept" "I") (by decide +kernel)) rfl (ty := .int) (by decide +kernel) rfl rfl (Nat.le_of_ble_eq_true rfl) dX5_keep_101 (zM_I (zK_of g4) (by decide) rfl) (fun H locs hW hS => ?_)
  obtain ⟨M5, eM6, h⟩ := zl_some h
  rw [← eM6] at hW
  exact z_vret hx hb hr hlocks hW hS (Option.some.inj h) dX5_keep_104
def f_X5_keep_0 (N : Nat) (K len : Nat → Nat) (x0 : Nat) (M : ZM) : Option (ZM) :=
zg (K x0 == 6) (
(f_X5_isRow N (zI M x0 7)).bind fun q2 => (
(if q2 = 0 then
some M
else
(zR M x0 0).bind fun b5 => (
(zR M x0 3).bind fun b7 => (
zg (zok K len b7 15 (zI M x0 7)) (
(zR M b7 (zI M x0 7).toNatClampNeg).bind fun b10 => (
zg (zcp K len 11 b5 b10 (0 : Int32) (0 : Int32) (28 : Int32)) (
zl (zcI M b5 b10 (0 : Int32).toNatClampNeg (0 : Int32).toNatClampNeg (28 : Int32).toNatClampNeg) fun M13 => (
(zR M13 x0 1).bind fun b15 => (
(zR M13 x0 4).bind fun b17 => (
zg (zok K len b17 16 (zI M13 x0 7)) (
(zR M13 b17 (zI M13 x0 7).toNatClampNeg).bind fun b20 => (
zg (zcp K len 12 b15 b20 (0 : Int32) (0 : Int32) (28 : Int32)) (
zl (zcJ M13 b15 b20 (0 : Int32).toNatClampNeg (0 : Int32).toNatClampNeg (28 : Int32).toNatClampNeg) fun M23 => (
(zR M23 x0 5).bind fun b25 => (
zg (zok K len b25 11 (zI M23 x0 7)) (
zl (zsI M23 b25 (zI M23 x0 7).toNatClampNeg (zI M23 x0 2)) fun M28 => (
(if (20 : Int32) ≤ ((zI M28 x0 7) + (1 : Int32)) then
f_X5_keep_86 N K len  x0 (0 : Int32) x0 M28
else
f_X5_keep_86 N K len  x0 ((zI M28 x0 7) + (1 : Int32)) x0 M28)))))))))))))))))))
set_option maxRecDepth 100000 in
set_option maxHeartbeats 4000000 in
theorem t_X5_keep_0 {p : Program} {l : Launch} {e : Env} {s : State} {m : MethodId} {args : Array Value} {below : List Frame} {meth : Method} {c : Code} {D : va_G} {cy : Nat → ClassId} {ad : Nat → Nat} {L : List Nat} {K len : Nat → Nat} (C0 : zCx p s m c meth args cX5_keep 1 wsX5_keep RX5 none D cy ad L K) (N : Nat) {x0 : Nat} {M : ZM} {Mr : ZM} (h : f_X5_keep_0 N K len x0 M = some Mr) {H : Heap} {locs : List Loc} {ls : Array Slot} (hW : zWd D cy ad L K len M H) (hS : va_S (zA ad L s.heap.size) s.heap H locs) (hl : lv_has ls 1 [(0, .ref (ad x0))]) : W p l e (headSpec wsX5_keep ({ frames := 1, cells := 0, slots := 0, locals := 60 } : Room)).room s m args below meth c H locs 0 0 (MQ below (zQv D cy ad L K len Mr s.heap.size) args s 0 0 (zA ad L s.heap.size)) (F0 m 0 ls []) := by
  obtain ⟨hx, hb, hr, hml, hown, hts, hlocks, hK, hL, hE⟩ := id C0
  have hinX5 : ∀ w ∈ wsX50, w ∈ wsX5_keep := by decide +kernel
  unfold f_X5_keep_0 at h
  refine lv_aload_n hx hb dX5_keep_0 rfl (lv_at hl 0 rfl) ?_
  obtain ⟨g1, h⟩ := zg_some h
  refine z_get (own := RX5) (C := RX5) (T := TX5) (N := 8) (ci := 5) hx hb hts hinX5 hown hK hL hW 7 (zK_of g1) rfl (by decide) (by decide) rfl (hts (.fieldLink RX5 39 "ArcLight$Weights" "next" "I") (by decide +kernel)) (v := .int (zI M x0 7)) rfl dX5_keep_1 ?_
  obtain ⟨q2, e3, h⟩ := zb_some h
  refine z_calli hS (va_runS (As := [.int (zI M x0 7)]) (rest := []) ⟨hx, hb, hml, hown, hts⟩ (m_X5_isRow l (M := M) hL N e3 H.size) (va_cwS 1 hts gX5_keep_X5_isRow rfl rfl rfl (by decide +kernel) ⟨Nat.le_of_ble_eq_true rfl, Nat.le_of_ble_eq_true rfl⟩) (z_preS hK hE hW hS [.int (zI M x0 7)]) rfl rfl hl.1 rfl (lv_room (Nat.le_of_ble_eq_true rfl)) dX5_keep_4 ⟨Nat.le_of_ble_eq_true rfl, Nat.le_of_ble_eq_true rfl⟩) (fun H locs hW hS => ?_)
  refine lv_if_ne (tgt := 11) hx hb dX5_keep_7 (by decide) (fun c4 => ?_) (fun c4 => ?_)
  · have h := zin c4 h
    refine lv_aload_n hx hb dX5_keep_11 rfl (lv_at hl 0 rfl) ?_
    obtain ⟨b5, e6, h⟩ := zb_some h
    refine z_get (own := RX5) (C := RX5) (T := TX5) (N := 8) (ci := 5) hx hb hts hinX5 hown hK hL hW 0 (zK_of g1) rfl (by decide) (by decide) rfl (hts (.fieldLink RX5 9 "ArcLight$Weights" "now" "[I") (by decide +kernel)) (v := .ref (ad b5)) (zhvR e6 rfl) dX5_keep_12 ?_
    refine lv_iconst (v := 0) hx hb dX5_keep_15 (by decide) ?_
    refine lv_aload_n hx hb dX5_keep_16 rfl (lv_at hl 0 rfl) ?_
    obtain ⟨b7, e8, h⟩ := zb_some h
    refine z_get (own := RX5) (C := RX5) (T := TX5) (N := 8) (ci := 5) hx hb hts hinX5 hown hK hL hW 3 (zK_of g1) rfl (by decide) (by decide) rfl (hts (.fieldLink RX5 25 "ArcLight$Weights" "oldWeights" "[[I") (by decide +kernel)) (v := .ref (ad b7)) (zhvR e8 rfl) dX5_keep_17 ?_
    refine lv_aload_n hx hb dX5_keep_20 rfl (lv_at hl 0 rfl) ?_
    refine z_get (own := RX5) (C := RX5) (T := TX5) (N := 8) (ci := 5) hx hb hts hinX5 hown hK hL hW 7 (zK_of g1) rfl (by decide) (by decide) rfl (hts (.fieldLink RX5 39 "ArcLight$Weights" "next" "I") (by decide +kernel)) (v := .int (zI M x0 7)) rfl dX5_keep_21 ?_
    obtain ⟨g9, h⟩ := zg_some h
    obtain ⟨b10, e11, h⟩ := zb_some h
    refine z_aaldS hx hb hK hL hW 15 g9 (by decide) e11 dX5_keep_24 ?_
    refine lv_iconst (v := 0) hx hb dX5_keep_25 (by decide) ?_
    refine lv_bipush (v := 28) hx hb dX5_keep_26 (by decide) ?_
    obtain ⟨g12, h⟩ := zg_some h
    refine z_copyI (own := RX5) hx hb (hml.trans hl.1.symm) hown (hts (.methodLink RX5 66 arraycopyName) (by decide +kernel)) (hts (.native arraycopyName) (by decide +kernel)) (hts (.static arraycopyName) (by decide +kernel)) (hts (.initialized "java/lang/System") (by decide +kernel)) hK hL hW hS g12 (Nat.le_of_ble_eq_true rfl) (by decide +kernel) dX5_keep_28 (fun H locs hW hS => ?_)
    obtain ⟨M13, eM14, h⟩ := zl_some h
    rw [← eM14] at hW
    refine lv_aload_n hx hb dX5_keep_31 rfl (lv_at hl 0 rfl) ?_
    obtain ⟨b15, e16, h⟩ := zb_some h
    refine z_get (own := RX5) (C := RX5) (T := TX5) (N := 8) (ci := 5) hx hb hts hinX5 hown hK hL hW 1 (zK_of g1) rfl (by decide) (by decide) rfl (hts (.fieldLink RX5 15 "ArcLight$Weights" "sums" "[J") (by decide +kernel)) (v := .ref (ad b15)) (zhvR e16 rfl) dX5_keep_32 ?_
    refine lv_iconst (v := 0) hx hb dX5_keep_35 (by decide) ?_
    refine lv_aload_n hx hb dX5_keep_36 rfl (lv_at hl 0 rfl) ?_
    obtain ⟨b17, e18, h⟩ := zb_some h
    refine z_get (own := RX5) (C := RX5) (T := TX5) (N := 8) (ci := 5) hx hb hts hinX5 hown hK hL hW 4 (zK_of g1) rfl (by decide) (by decide) rfl (hts (.fieldLink RX5 30 "ArcLight$Weights" "oldSums" "[[J") (by decide +kernel)) (v := .ref (ad b17)) (zhvR e18 rfl) dX5_keep_37 ?_
    refine lv_aload_n hx hb dX5_keep_40 rfl (lv_at hl 0 rfl) ?_
    refine z_get (own := RX5) (C := RX5) (T := TX5) (N := 8) (ci := 5) hx hb hts hinX5 hown hK hL hW 7 (zK_of g1) rfl (by decide) (by decide) rfl (hts (.fieldLink RX5 39 "ArcLight$Weights" "next" "I") (by decide +kernel)) (v := .int (zI M13 x0 7)) rfl dX5_keep_41 ?_
    obtain ⟨g19, h⟩ := zg_some h
    obtain ⟨b20, e21, h⟩ := zb_some h
    refine z_aaldS hx hb hK hL hW 16 g19 (by decide) e21 dX5_keep_44 ?_
    refine lv_iconst (v := 0) hx hb dX5_keep_45 (by decide) ?_
    refine lv_bipush (v := 28) hx hb dX5_keep_46 (by decide) ?_
    obtain ⟨g22, h⟩ := zg_some h
    refine z_copyJ (own := RX5) hx hb (hml.trans hl.1.symm) hown (hts (.methodLink RX5 66 arraycopyName) (by decide +kernel)) (hts (.native arraycopyName) (by decide +kernel)) (hts (.static arraycopyName) (by decide +kernel)) (hts (.initialized "java/lang/System") (by decide +kernel)) hK hL hW hS g22 (Nat.le_of_ble_eq_true rfl) (by decide +kernel) dX5_keep_48 (fun H locs hW hS => ?_)
    obtain ⟨M23, eM24, h⟩ := zl_some h
    rw [← eM24] at hW
    refine lv_aload_n hx hb dX5_keep_51 rfl (lv_at hl 0 rfl) ?_
    obtain ⟨b25, e26, h⟩ := zb_some h
    refine z_get (own := RX5) (C := RX5) (T := TX5) (N := 8) (ci := 5) hx hb hts hinX5 hown hK hL hW 5 (zK_of g1) rfl (by decide) (by decide) rfl (hts (.fieldLink RX5 33 "ArcLight$Weights" "oldSteps" "[I") (by decide +kernel)) (v := .ref (ad b25)) (zhvR e26 rfl) dX5_keep_52 ?_
    refine lv_aload_n hx hb dX5_keep_55 rfl (lv_at hl 0 rfl) ?_
    refine z_get (own := RX5) (C := RX5) (T := TX5) (N := 8) (ci := 5) hx hb hts hinX5 hown hK hL hW 7 (zK_of g1) rfl (by decide) (by decide) rfl (hts (.fieldLink RX5 39 "ArcLight$Weights" "next" "I") (by decide +kernel)) (v := .int (zI M23 x0 7)) rfl dX5_keep_56 ?_
    refine lv_aload_n hx hb dX5_keep_59 rfl (lv_at hl 0 rfl) ?_
    refine z_get (own := RX5) (C := RX5) (T := TX5) (N := 8) (ci := 5) hx hb hts hinX5 hown hK hL hW 2 (zK_of g1) rfl (by decide) (by decide) rfl (hts (.fieldLink RX5 19 "ArcLight$Weights" "steps" "I") (by decide +kernel)) (v := .int (zI M23 x0 2)) rfl dX5_keep_60 ?_
    obtain ⟨g27, h⟩ := zg_some h
    refine z_iast hx hb hK hL hW hS g27 dX5_keep_63 (fun H locs hW hS => ?_)
    obtain ⟨M28, eM29, h⟩ := zl_some h
    rw [← eM29] at hW
    refine lv_aload_n hx hb dX5_keep_64 rfl (lv_at hl 0 rfl) ?_
    refine lv_aload_n hx hb dX5_keep_65 rfl (lv_at hl 0 rfl) ?_
    refine z_get (own := RX5) (C := RX5) (T := TX5) (N := 8) (ci := 5) hx hb hts hinX5 hown hK hL hW 7 (zK_of g1) rfl (by decide) (by decide) rfl (hts (.fieldLink RX5 39 "ArcLight$Weights" "next" "I") (by decide +kernel)) (v := .int (zI M28 x0 7)) rfl dX5_keep_66 ?_
    refine lv_iconst (v := 1) hx hb dX5_keep_69 (by decide) ?_
    refine lv_iadd hx hb dX5_keep_70 ?_
    refine lv_bipush (v := 20) hx hb dX5_keep_71 (by decide) ?_
    refine lv_icmp_ge (tgt := 85) hx hb dX5_keep_73 (by decide) (fun c30 => ?_) (fun c30 => ?_)
    · have h := zip c30 h
      refine lv_iconst (v := 0) hx hb dX5_keep_85 (by decide) ?_
      exact t_X5_keep_86 C0 N  h hW hS (lv_sub hl [0] rfl)
    · have h := zin c30 h
      refine lv_aload_n hx hb dX5_keep_76 rfl (lv_at hl 0 rfl) ?_
      refine z_get (own := RX5) (C := RX5) (T := TX5) (N := 8) (ci := 5) hx hb hts hinX5 hown hK hL hW 7 (zK_of g1) rfl (by decide) (by decide) rfl (hts (.fieldLink RX5 39 "ArcLight$Weights" "next" "I") (by decide +kernel)) (v := .int (zI M28 x0 7)) rfl dX5_keep_77 ?_
      refine lv_iconst (v := 1) hx hb dX5_keep_80 (by decide) ?_
      refine lv_iadd hx hb dX5_keep_81 ?_
      refine lv_goto (tgt := 86) hx hb dX5_keep_82 (by decide) ?_
      exact t_X5_keep_86 C0 N  h hW hS (lv_sub hl [0] rfl)
  · have h := zip c4 h
    exact z_vret hx hb hr hlocks hW hS (Option.some.inj h) dX5_keep_10
def f_X5_keep (N : Nat) (K len : Nat → Nat) (a0 : Nat) (M : ZM) : Option (ZM) := f_X5_keep_0 N K len a0 M
set_option maxRecDepth 100000 in
set_option maxHeartbeats 4000000 in
theorem m_X5_keep (l : Launch) {D : va_G} {cy : Nat → ClassId} {ad : Nat → Nat} {L : List Nat} {K len : Nat → Nat} (hL : zSh ad L K) (N : Nat) {a0 : Nat} {M : ZM} {Mr : ZM} (h : f_X5_keep N K len a0 M = some Mr) (sz : Nat) : Met l yX5_keep wsX5_keep ({ frames := 1, cells := 0, slots := 0, locals := 60 } : Room) (zPre D cy ad L K len sz [.ref (ad a0)] M) (zQv D cy ad L K len Mr sz) 0 0 (zA ad L sz) :=
  z_entry (Qf := fun sz => zQv D cy ad L K len Mr sz) (av := [.ref (ad a0)]) (by decide) rfl rfl hL (Nat.le_of_ble_eq_true rfl) (fun p e s m args below meth c C0 H locs ls hW hS hl => t_X5_keep_0 C0 N h hW hS (lv_sub hl [0] rfl))
def f_X5_takeBack_18 (N : Nat) (K len : Nat → Nat) (x0 : Nat) (s0 : Int32) (M : ZM) : Option (ZM) :=
zg (K x0 == 6) (
(if (zI M x0 6) ≤ 0 then
some M
else
(f_X5_isRow N s0).bind fun q3 => (
(if q3 = 0 then
some M
else
(zR M x0 3).bind fun b6 => (
zg (zok K len b6 15 s0) (
(zR M b6 s0.toNatClampNeg).bind fun b9 => (
(zR M x0 0).bind fun b11 => (
zg (zcp K len 11 b9 b11 (0 : Int32) (0 : Int32) (28 : Int32)) (
zl (zcI M b9 b11 (0 : Int32).toNatClampNeg (0 : Int32).toNatClampNeg (28 : Int32).toNatClampNeg) fun M14 => (
(zR M14 x0 4).bind fun b16 => (
zg (zok K len b16 16 s0) (
(zR M14 b16 s0.toNatClampNeg).bind fun b19 => (
(zR M14 x0 1).bind fun b21 => (
zg (zcp K len 12 b19 b21 (0 : Int32) (0 : Int32) (28 : Int32)) (
zl (zcJ M14 b19 b21 (0 : Int32).toNatClampNeg (0 : Int32).toNatClampNeg (28 : Int32).toNatClampNeg) fun M24 => (
(zR M24 x0 5).bind fun b26 => (
zg (zok K len b26 11 s0) (
zl (zsI M24 x0 2 (zI M24 b26 s0.toNatClampNeg)) fun M29 => (
zl (zsI M29 x0 7 s0) fun M31 => (
zl (zsI M31 x0 6 ((zI M31 x0 6) - (1 : Int32))) fun M33 => (
some M33)))))))))))))))))))))
set_option maxRecDepth 100000 in
set_option maxHeartbeats 4000000 in
theorem t_X5_takeBack_18 {p : Program} {l : Launch} {e : Env} {s : State} {m : MethodId} {args : Array Value} {below : List Frame} {meth : Method} {c : Code} {D : va_G} {cy : Nat → ClassId} {ad : Nat → Nat} {L : List Nat} {K len : Nat → Nat} (C0 : zCx p s m c meth args cX5_takeBack 2 wsX5_takeBack RX5 none D cy ad L K) (N : Nat) {x0 : Nat} {s0 : Int32} {M : ZM} {Mr : ZM} (h : f_X5_takeBack_18 N K len x0 s0 M = some Mr) {H : Heap} {locs : List Loc} {ls : Array Slot} (hW : zWd D cy ad L K len M H) (hS : va_S (zA ad L s.heap.size) s.heap H locs) (hl : lv_has ls 2 [(0, .ref (ad x0))]) : W p l e (headSpec wsX5_takeBack ({ frames := 1, cells := 0, slots := 0, locals := 60 } : Room)).room s m args below meth c H locs 0 0 (MQ below (zQv D cy ad L K len Mr s.heap.size) args s 0 0 (zA ad L s.heap.size)) (F0 m 18 ls [.int s0]) := by
  obtain ⟨hx, hb, hr, hml, hown, hts, hlocks, hK, hL, hE⟩ := id C0
  have hinX5 : ∀ w ∈ wsX50, w ∈ wsX5_takeBack := by decide +kernel
  unfold f_X5_takeBack_18 at h
  refine lv_istore_n (lv' := [(1, .int s0), (0, .ref (ad x0))]) hx hb dX5_takeBack_18 rfl hl (by decide) rfl (fun ls hl => ?_)
  refine lv_aload_n hx hb dX5_takeBack_19 rfl (lv_at hl 1 rfl) ?_
  obtain ⟨g1, h⟩ := zg_some h
  refine z_get (own := RX5) (C := RX5) (T := TX5) (N := 8) (ci := 5) hx hb hts hinX5 hown hK hL hW 6 (zK_of g1) rfl (by decide) (by decide) rfl (hts (.fieldLink RX5 36 "ArcLight$Weights" "kept" "I") (by decide +kernel)) (v := .int (zI M x0 6)) rfl dX5_takeBack_20 ?_
  refine lv_if_le (tgt := 33) hx hb dX5_takeBack_23 (by decide) (fun c2 => ?_) (fun c2 => ?_)
  · have h := zip c2 h
    exact z_vret hx hb hr hlocks hW hS (Option.some.inj h) dX5_takeBack_33
  · have h := zin c2 h
    refine lv_iload_n hx hb dX5_takeBack_26 rfl (lv_at hl 0 rfl) ?_
    obtain ⟨q3, e4, h⟩ := zb_some h
    refine z_calli hS (va_runS (As := [.int s0]) (rest := []) ⟨hx, hb, hml, hown, hts⟩ (m_X5_isRow l (M := M) hL N e4 H.size) (va_cwS 1 hts gX5_takeBack_X5_isRow rfl rfl rfl (by decide +kernel) ⟨Nat.le_of_ble_eq_true rfl, Nat.le_of_ble_eq_true rfl⟩) (z_preS hK hE hW hS [.int s0]) rfl rfl hl.1 rfl (lv_room (Nat.le_of_ble_eq_true rfl)) dX5_takeBack_27 ⟨Nat.le_of_ble_eq_true rfl, Nat.le_of_ble_eq_true rfl⟩) (fun H locs hW hS => ?_)
    refine lv_if_ne (tgt := 34) hx hb dX5_takeBack_30 (by decide) (fun c5 => ?_) (fun c5 => ?_)
    · have h := zin c5 h
      refine lv_aload_n hx hb dX5_takeBack_34 rfl (lv_at hl 1 rfl) ?_
      obtain ⟨b6, e7, h⟩ := zb_some h
      refine z_get (own := RX5) (C := RX5) (T := TX5) (N := 8) (ci := 5) hx hb hts hinX5 hown hK hL hW 3 (zK_of g1) rfl (by decide) (by decide) rfl (hts (.fieldLink RX5 25 "ArcLight$Weights" "oldWeights" "[[I") (by decide +kernel)) (v := .ref (ad b6)) (zhvR e7 rfl) dX5_takeBack_35 ?_
      refine lv_iload_n hx hb dX5_takeBack_38 rfl (lv_at hl 0 rfl) ?_
      obtain ⟨g8, h⟩ := zg_some h
      obtain ⟨b9, e10, h⟩ := zb_some h
      refine z_aaldS hx hb hK hL hW 15 g8 (by decide) e10 dX5_takeBack_39 ?_
      refine lv_iconst (v := 0) hx hb dX5_takeBack_40 (by decide) ?_
      refine lv_aload_n hx hb dX5_takeBack_41 rfl (lv_at hl 1 rfl) ?_
      obtain ⟨b11, e12, h⟩ := zb_some h
      refine z_get (own := RX5) (C := RX5) (T := TX5) (N := 8) (ci := 5) hx hb hts hinX5 hown hK hL hW 0 (zK_of g1) rfl (by decide) (by decide) rfl (hts (.fieldLink RX5 9 "ArcLight$Weights" "now" "[I") (by decide +kernel)) (v := .ref (ad b11)) (zhvR e12 rfl) dX5_takeBack_42 ?_
      refine lv_iconst (v := 0) hx hb dX5_takeBack_45 (by decide) ?_
      refine lv_bipush (v := 28) hx hb dX5_takeBack_46 (by decide) ?_
      obtain ⟨g13, h⟩ := zg_some h
      refine z_copyI (own := RX5) hx hb (hml.trans hl.1.symm) hown (hts (.methodLink RX5 66 arraycopyName) (by decide +kernel)) (hts (.native arraycopyName) (by decide +kernel)) (hts (.static arraycopyName) (by decide +kernel)) (hts (.initialized "java/lang/System") (by decide +kernel)) hK hL hW hS g13 (Nat.le_of_ble_eq_true rfl) (by decide +kernel) dX5_takeBack_48 (fun H locs hW hS => ?_)
      obtain ⟨M14, eM15, h⟩ := zl_some h
      rw [← eM15] at hW
      refine lv_aload_n hx hb dX5_takeBack_51 rfl (lv_at hl 1 rfl) ?_
      obtain ⟨b16, e17, h⟩ := zb_some h
      refine z_get (own := RX5) (C := RX5) (T := TX5) (N := 8) (ci := 5) hx hb hts hinX5 hown hK hL hW 4 (zK_of g1) rfl (by decide) (by decide) rfl (hts (.fieldLink RX5 30 "ArcLight$Weights" "oldSums" "[[J") (by decide +kernel)) (v := .ref (ad b16)) (zhvR e17 rfl) dX5_takeBack_52 ?_
      refine lv_iload_n hx hb dX5_takeBack_55 rfl (lv_at hl 0 rfl) ?_
      obtain ⟨g18, h⟩ := zg_some h
      obtain ⟨b19, e20, h⟩ := zb_some h
      refine z_aaldS hx hb hK hL hW 16 g18 (by decide) e20 dX5_takeBack_56 ?_
      refine lv_iconst (v := 0) hx hb dX5_takeBack_57 (by decide) ?_
      refine lv_aload_n hx hb dX5_takeBack_58 rfl (lv_at hl 1 rfl) ?_
      obtain ⟨b21, e22, h⟩ := zb_some h
      refine z_get (own := RX5) (C := RX5) (T := TX5) (N := 8) (ci := 5) hx hb hts hinX5 hown hK hL hW 1 (zK_of g1) rfl (by decide) (by decide) rfl (hts (.fieldLink RX5 15 "ArcLight$Weights" "sums" "[J") (by decide +kernel)) (v := .ref (ad b21)) (zhvR e22 rfl) dX5_takeBack_59 ?_
      refine lv_iconst (v := 0) hx hb dX5_takeBack_62 (by decide) ?_
      refine lv_bipush (v := 28) hx hb dX5_takeBack_63 (by decide) ?_
      obtain ⟨g23, h⟩ := zg_some h
      refine z_copyJ (own := RX5) hx hb (hml.trans hl.1.symm) hown (hts (.methodLink RX5 66 arraycopyName) (by decide +kernel)) (hts (.native arraycopyName) (by decide +kernel)) (hts (.static arraycopyName) (by decide +kernel)) (hts (.initialized "java/lang/System") (by decide +kernel)) hK hL hW hS g23 (Nat.le_of_ble_eq_true rfl) (by decide +kernel) dX5_takeBack_65 (fun H locs hW hS => ?_)
      obtain ⟨M24, eM25, h⟩ := zl_some h
      rw [← eM25] at hW
      refine lv_aload_n hx hb dX5_takeBack_68 rfl (lv_at hl 1 rfl) ?_
      refine lv_aload_n hx hb dX5_takeBack_69 rfl (lv_at hl 1 rfl) ?_
      obtain ⟨b26, e27, h⟩ := zb_some h
      refine z_get (own := RX5) (C := RX5) (T := TX5) (N := 8) (ci := 5) hx hb hts hinX5 hown hK hL hW 5 (zK_of g1) rfl (by decide) (by decide) rfl (hts (.fieldLink RX5 33 "ArcLight$Weights" "oldSteps" "[I") (by decide +kernel)) (v := .ref (ad b26)) (zhvR e27 rfl) dX5_takeBack_70 ?_
      refine lv_iload_n hx hb dX5_takeBack_73 rfl (lv_at hl 0 rfl) ?_
      obtain ⟨g28, h⟩ := zg_some h
      refine z_iald hx hb hK hL hW g28 dX5_takeBack_74 ?_
      refine z_put (own := RX5) (C := RX5) (T := TX5) (N := 8) (ci := 5) (v := .int (zI M24 b26 s0.toNatClampNeg)) (M' := zsI M24 x0 2 (zI M24 b26 s0.toNatClampNeg)) hx hb hts hinX5 tyX5 tyX5_ok nmX5 hown hK hL hW hS 2 (zK_of g1) rfl (by decide) (by decide) rfl (hts (.fieldLink RX5 19 "ArcLight$Weights" "steps" "I") (by decide +kernel)) rfl (ty := .int) (by decide +kernel) rfl rfl (Nat.le_of_ble_eq_true rfl) dX5_takeBack_75 (zM_I (zK_of g1) (by decide) rfl) (fun H locs hW hS => ?_)
      obtain ⟨M29, eM30, h⟩ := zl_some h
      rw [← eM30] at hW
      refine lv_aload_n hx hb dX5_takeBack_78 rfl (lv_at hl 1 rfl) ?_
      refine lv_iload_n hx hb dX5_takeBack_79 rfl (lv_at hl 0 rfl) ?_
      refine z_put (own := RX5) (C := RX5) (T := TX5) (N := 8) (ci := 5) (v := .int s0) (M' := zsI M29 x0 7 s0) hx hb hts hinX5 tyX5 tyX5_ok nmX5 hown hK hL hW hS 7 (zK_of g1) rfl (by decide) (by decide) rfl (hts (.fieldLink RX5 39 "ArcLight$Weights" "next" "I") (by decide +kernel)) rfl (ty := .int) (by decide +kernel) rfl rfl (Nat.le_of_ble_eq_true rfl) dX5_takeBack_80 (zM_I (zK_of g1) (by decide) rfl) (fun H locs hW hS => ?_)
      obtain ⟨M31, eM32, h⟩ := zl_some h
      rw [← eM32] at hW
      refine lv_aload_n hx hb dX5_takeBack_83 rfl (lv_at hl 1 rfl) ?_
      refine lv_dup hx hb dX5_takeBack_84 rfl ?_
      refine z_get (own := RX5) (C := RX5) (T := TX5) (N := 8) (ci := 5) hx hb hts hinX5 hown hK hL hW 6 (zK_of g1) rfl (by decide) (by decide) rfl (hts (.fieldLink RX5 36 "ArcLight$Weights" "kept" "I") (by decide +kernel)) (v := .int (zI M31 x0 6)) rfl dX5_takeBack_85 ?_
      refine lv_iconst (v := 1) hx hb dX5_takeBack_88 (by decide) ?_
      refine lv_isub hx hb dX5_takeBack_89 ?_
      refine z_put (own := RX5) (C := RX5) (T := TX5) (N := 8) (ci := 5) (v := .int ((zI M31 x0 6) - (1 : Int32))) (M' := zsI M31 x0 6 ((zI M31 x0 6) - (1 : Int32))) hx hb hts hinX5 tyX5 tyX5_ok nmX5 hown hK hL hW hS 6 (zK_of g1) rfl (by decide) (by decide) rfl (hts (.fieldLink RX5 36 "ArcLight$Weights" "kept" "I") (by decide +kernel)) rfl (ty := .int) (by decide +kernel) rfl rfl (Nat.le_of_ble_eq_true rfl) dX5_takeBack_90 (zM_I (zK_of g1) (by decide) rfl) (fun H locs hW hS => ?_)
      obtain ⟨M33, eM34, h⟩ := zl_some h
      rw [← eM34] at hW
      exact z_vret hx hb hr hlocks hW hS (Option.some.inj h) dX5_takeBack_93
    · have h := zip c5 h
      exact z_vret hx hb hr hlocks hW hS (Option.some.inj h) dX5_takeBack_33
def f_X5_takeBack_0 (N : Nat) (K len : Nat → Nat) (x0 : Nat) (M : ZM) : Option (ZM) :=
zg (K x0 == 6) (
(if (zI M x0 7) ≤ 0 then
f_X5_takeBack_18 N K len  x0 (19 : Int32) M
else
f_X5_takeBack_18 N K len  x0 ((zI M x0 7) - (1 : Int32)) M))
set_option maxRecDepth 100000 in
set_option maxHeartbeats 4000000 in
theorem t_X5_takeBack_0 {p : Program} {l : Launch} {e : Env} {s : State} {m : MethodId} {args : Array Value} {below : List Frame} {meth : Method} {c : Code} {D : va_G} {cy : Nat → ClassId} {ad : Nat → Nat} {L : List Nat} {K len : Nat → Nat} (C0 : zCx p s m c meth args cX5_takeBack 2 wsX5_takeBack RX5 none D cy ad L K) (N : Nat) {x0 : Nat} {M : ZM} {Mr : ZM} (h : f_X5_takeBack_0 N K len x0 M = some Mr) {H : Heap} {locs : List Loc} {ls : Array Slot} (hW : zWd D cy ad L K len M H) (hS : va_S (zA ad L s.heap.size) s.heap H locs) (hl : lv_has ls 2 [(0, .ref (ad x0))]) : W p l e (headSpec wsX5_takeBack ({ frames := 1, cells := 0, slots := 0, locals := 60 } : Room)).room s m args below meth c H locs 0 0 (MQ below (zQv D cy ad L K len Mr s.heap.size) args s 0 0 (zA ad L s.heap.size)) (F0 m 0 ls []) := by
  obtain ⟨hx, hb, hr, hml, hown, hts, hlocks, hK, hL, hE⟩ := id C0
  have hinX5 : ∀ w ∈ wsX50, w ∈ wsX5_takeBack := by decide +kernel
  unfold f_X5_takeBack_0 at h
  refine lv_aload_n hx hb dX5_takeBack_0 rfl (lv_at hl 0 rfl) ?_
  obtain ⟨g1, h⟩ := zg_some h
  refine z_get (own := RX5) (C := RX5) (T := TX5) (N := 8) (ci := 5) hx hb hts hinX5 hown hK hL hW 7 (zK_of g1) rfl (by decide) (by decide) rfl (hts (.fieldLink RX5 39 "ArcLight$Weights" "next" "I") (by decide +kernel)) (v := .int (zI M x0 7)) rfl dX5_takeBack_1 ?_
  refine lv_if_le (tgt := 16) hx hb dX5_takeBack_4 (by decide) (fun c2 => ?_) (fun c2 => ?_)
  · have h := zip c2 h
    refine lv_bipush (v := 19) hx hb dX5_takeBack_16 (by decide) ?_
    exact t_X5_takeBack_18 C0 N  h hW hS (lv_sub hl [0] rfl)
  · have h := zin c2 h
    refine lv_aload_n hx hb dX5_takeBack_7 rfl (lv_at hl 0 rfl) ?_
    refine z_get (own := RX5) (C := RX5) (T := TX5) (N := 8) (ci := 5) hx hb hts hinX5 hown hK hL hW 7 (zK_of g1) rfl (by decide) (by decide) rfl (hts (.fieldLink RX5 39 "ArcLight$Weights" "next" "I") (by decide +kernel)) (v := .int (zI M x0 7)) rfl dX5_takeBack_8 ?_
    refine lv_iconst (v := 1) hx hb dX5_takeBack_11 (by decide) ?_
    refine lv_isub hx hb dX5_takeBack_12 ?_
    refine lv_goto (tgt := 18) hx hb dX5_takeBack_13 (by decide) ?_
    exact t_X5_takeBack_18 C0 N  h hW hS (lv_sub hl [0] rfl)
def f_X5_takeBack (N : Nat) (K len : Nat → Nat) (a0 : Nat) (M : ZM) : Option (ZM) := f_X5_takeBack_0 N K len a0 M
set_option maxRecDepth 100000 in
set_option maxHeartbeats 4000000 in
theorem m_X5_takeBack (l : Launch) {D : va_G} {cy : Nat → ClassId} {ad : Nat → Nat} {L : List Nat} {K len : Nat → Nat} (hL : zSh ad L K) (N : Nat) {a0 : Nat} {M : ZM} {Mr : ZM} (h : f_X5_takeBack N K len a0 M = some Mr) (sz : Nat) : Met l yX5_takeBack wsX5_takeBack ({ frames := 1, cells := 0, slots := 0, locals := 60 } : Room) (zPre D cy ad L K len sz [.ref (ad a0)] M) (zQv D cy ad L K len Mr sz) 0 0 (zA ad L sz) :=
  z_entry (Qf := fun sz => zQv D cy ad L K len Mr sz) (av := [.ref (ad a0)]) (by decide) rfl rfl hL (Nat.le_of_ble_eq_true rfl) (fun p e s m args below meth c C0 H locs ls hW hS hl => t_X5_takeBack_0 C0 N h hW hS (lv_sub hl [0] rfl))
def f_X6_steps_0 (N : Nat) (K len : Nat → Nat) (x0 : Nat) (M : ZM) : Option (Int32) :=
zg (K x0 == 7) (
(zR M x0 2).bind fun b2 => (
(f_X5_stepCount N K len b2 M).bind fun q4 => (
zg (K b2 == 6) (
some q4))))
set_option maxRecDepth 100000 in
set_option maxHeartbeats 4000000 in
theorem t_X6_steps_0 {p : Program} {l : Launch} {e : Env} {s : State} {m : MethodId} {args : Array Value} {below : List Frame} {meth : Method} {c : Code} {D : va_G} {cy : Nat → ClassId} {ad : Nat → Nat} {L : List Nat} {K len : Nat → Nat} (C0 : zCx p s m c meth args cX6_steps 1 wsX6_steps RX6 (some .int) D cy ad L K) (N : Nat) {x0 : Nat} {M : ZM} {r : Int32} (h : f_X6_steps_0 N K len x0 M = some r) {H : Heap} {locs : List Loc} {ls : Array Slot} (hW : zWd D cy ad L K len M H) (hS : va_S (zA ad L s.heap.size) s.heap H locs) (hl : lv_has ls 1 [(0, .ref (ad x0))]) : W p l e (headSpec wsX6_steps ({ frames := 1, cells := 0, slots := 0, locals := 20 } : Room)).room s m args below meth c H locs 0 0 (MQ below (zQi D cy ad L K len r M s.heap.size) args s 0 0 (zA ad L s.heap.size)) (F0 m 0 ls []) := by
  obtain ⟨hx, hb, hr, hml, hown, hts, hlocks, hK, hL, hE⟩ := id C0
  have hinX6 : ∀ w ∈ wsX60, w ∈ wsX6_steps := by decide +kernel
  unfold f_X6_steps_0 at h
  refine lv_aload_n hx hb dX6_steps_0 rfl (lv_at hl 0 rfl) ?_
  obtain ⟨g1, h⟩ := zg_some h
  obtain ⟨b2, e3, h⟩ := zb_some h
  refine z_get (own := RX6) (C := RX6) (T := TX6) (N := 7) (ci := 6) hx hb hts hinX6 hown hK hL hW 2 (zK_of g1) rfl (by decide) (by decide) rfl (hts (.fieldLink RX6 22 "ArcLight" "weights" "LArcLight$Weights;") (by decide +kernel)) (v := .ref (ad b2)) (zhvR e3 rfl) dX6_steps_1 ?_
  obtain ⟨q4, e5, h⟩ := zb_some h
  obtain ⟨g6, h⟩ := zg_some h
  refine z_calli hS (va_runV (As := []) (rest := []) ⟨hx, hb, hml, hown, hts⟩ (m_X5_stepCount l hL N e5 H.size) (cwV 0 hts gX6_steps_X5_stepCount rfl rfl rfl (by decide +kernel) ⟨Nat.le_of_ble_eq_true rfl, Nat.le_of_ble_eq_true rfl⟩) (z_preV (q := (RX5, TX5, 8)) hK hL hE hW hS (zK_of g6) (by decide) rfl []) rfl rfl hl.1 rfl (lv_room (Nat.le_of_ble_eq_true rfl)) dX6_steps_4 ⟨Nat.le_of_ble_eq_true rfl, Nat.le_of_ble_eq_true rfl⟩) (fun H locs hW hS => ?_)
  exact z_iret hx hb hr hlocks hW hS (Option.some.inj h) rfl dX6_steps_7
def f_X6_steps (N : Nat) (K len : Nat → Nat) (a0 : Nat) (M : ZM) : Option (Int32) := f_X6_steps_0 N K len a0 M
set_option maxRecDepth 100000 in
set_option maxHeartbeats 4000000 in
theorem m_X6_steps (l : Launch) {D : va_G} {cy : Nat → ClassId} {ad : Nat → Nat} {L : List Nat} {K len : Nat → Nat} (hL : zSh ad L K) (N : Nat) {a0 : Nat} {M : ZM} {r : Int32} (h : f_X6_steps N K len a0 M = some r) (sz : Nat) : Met l yX6_steps wsX6_steps ({ frames := 1, cells := 0, slots := 0, locals := 20 } : Room) (zPre D cy ad L K len sz [.ref (ad a0)] M) (zQi D cy ad L K len r M sz) 0 0 (zA ad L sz) :=
  z_entry (Qf := fun sz => zQi D cy ad L K len r M sz) (av := [.ref (ad a0)]) (by decide) rfl rfl hL (Nat.le_of_ble_eq_true rfl) (fun p e s m args below meth c C0 H locs ls hW hS hl => t_X6_steps_0 C0 N h hW hS (lv_sub hl [0] rfl))
def f_X6_sentences_0 (N : Nat) (K len : Nat → Nat) (x0 : Nat) (M : ZM) : Option (Int32) :=
zg (K x0 == 7) (
some (zI M x0 1))
set_option maxRecDepth 100000 in
set_option maxHeartbeats 4000000 in
theorem t_X6_sentences_0 {p : Program} {l : Launch} {e : Env} {s : State} {m : MethodId} {args : Array Value} {below : List Frame} {meth : Method} {c : Code} {D : va_G} {cy : Nat → ClassId} {ad : Nat → Nat} {L : List Nat} {K len : Nat → Nat} (C0 : zCx p s m c meth args cX6_sentences 1 wsX6_sentences RX6 (some .int) D cy ad L K) (N : Nat) {x0 : Nat} {M : ZM} {r : Int32} (h : f_X6_sentences_0 N K len x0 M = some r) {H : Heap} {locs : List Loc} {ls : Array Slot} (hW : zWd D cy ad L K len M H) (hS : va_S (zA ad L s.heap.size) s.heap H locs) (hl : lv_has ls 1 [(0, .ref (ad x0))]) : W p l e (headSpec wsX6_sentences ({ frames := 0, cells := 0, slots := 0, locals := 0 } : Room)).room s m args below meth c H locs 0 0 (MQ below (zQi D cy ad L K len r M s.heap.size) args s 0 0 (zA ad L s.heap.size)) (F0 m 0 ls []) := by
  obtain ⟨hx, hb, hr, hml, hown, hts, hlocks, hK, hL, hE⟩ := id C0
  have hinX6 : ∀ w ∈ wsX60, w ∈ wsX6_sentences := by decide +kernel
  unfold f_X6_sentences_0 at h
  refine lv_aload_n hx hb dX6_sentences_0 rfl (lv_at hl 0 rfl) ?_
  obtain ⟨g1, h⟩ := zg_some h
  refine z_get (own := RX6) (C := RX6) (T := TX6) (N := 7) (ci := 6) hx hb hts hinX6 hown hK hL hW 1 (zK_of g1) rfl (by decide) (by decide) rfl (hts (.fieldLink RX6 15 "ArcLight" "count" "I") (by decide +kernel)) (v := .int (zI M x0 1)) rfl dX6_sentences_1 ?_
  exact z_iret hx hb hr hlocks hW hS (Option.some.inj h) rfl dX6_sentences_4
def f_X6_sentences (N : Nat) (K len : Nat → Nat) (a0 : Nat) (M : ZM) : Option (Int32) := f_X6_sentences_0 N K len a0 M
set_option maxRecDepth 100000 in
set_option maxHeartbeats 4000000 in
theorem m_X6_sentences (l : Launch) {D : va_G} {cy : Nat → ClassId} {ad : Nat → Nat} {L : List Nat} {K len : Nat → Nat} (hL : zSh ad L K) (N : Nat) {a0 : Nat} {M : ZM} {r : Int32} (h : f_X6_sentences N K len a0 M = some r) (sz : Nat) : Met l yX6_sentences wsX6_sentences ({ frames := 0, cells := 0, slots := 0, locals := 0 } : Room) (zPre D cy ad L K len sz [.ref (ad a0)] M) (zQi D cy ad L K len r M sz) 0 0 (zA ad L sz) :=
  z_entry (Qf := fun sz => zQi D cy ad L K len r M sz) (av := [.ref (ad a0)]) (by decide) rfl rfl hL (Nat.le_of_ble_eq_true rfl) (fun p e s m args below meth c C0 H locs ls hW hS hl => t_X6_sentences_0 C0 N h hW hS (lv_sub hl [0] rfl))
def f_X0_fill_93 (N : Nat) (K len : Nat → Nat) (kh15 : Nat → Nat → Nat → Int32 → ZM → Option (ZM)) (kh37 : Nat → Nat → Nat → Int32 → Int32 → ZM → Option (ZM)) (x0 : Nat) (x1 : Nat) (x2 : Nat) (x3 : Int32) (x4 : Int32) (s0 : Int64) (s1 : Int32) (s2 : Nat) (M : ZM) : Option (ZM) :=
zg (zok K len s2 12 s1) (
zl (zsJ M s2 s1.toNatClampNeg s0) fun M2 => (
kh37 x0 x1 x2 x3 (x4 + 1) M2))
set_option maxRecDepth 100000 in
set_option maxHeartbeats 4000000 in
theorem t_X0_fill_93 {p : Program} {l : Launch} {e : Env} {s : State} {m : MethodId} {args : Array Value} {below : List Frame} {meth : Method} {c : Code} {D : va_G} {cy : Nat → ClassId} {ad : Nat → Nat} {L : List Nat} {K len : Nat → Nat} (C0 : zCx p s m c meth args cX0_fill 5 wsX0_fill RX0 none D cy ad L K) (N : Nat) {kh15 : Nat → Nat → Nat → Int32 → ZM → Option (ZM)} {kh37 : Nat → Nat → Nat → Int32 → Int32 → ZM → Option (ZM)} {x0 : Nat} {x1 : Nat} {x2 : Nat} {x3 : Int32} {x4 : Int32} {s0 : Int64} {s1 : Int32} {s2 : Nat} {M : ZM} {Mr : ZM} (hk15 : ∀ {y0 : Nat} {y1 : Nat} {y2 : Nat} {y3 : Int32} {M : ZM}, kh15 y0 y1 y2 y3 M = some Mr → ∀ {H : Heap} {locs : List Loc} {ls : Array Slot}, zWd D cy ad L K len M H → va_S (zA ad L s.heap.size) s.heap H locs → lv_has ls 5 [(0, .ref (ad y0)), (1, .ref (ad y1)), (2, .ref (ad y2)), (3, .int y3)] → W p l e (headSpec wsX0_fill ({ frames := 4, cells := 0, slots := 0, locals := 87 } : Room)).room s m args below meth c H locs 0 0 (MQ below (zQv D cy ad L K len Mr s.heap.size) args s 0 0 (zA ad L s.heap.size)) (F0 m 15 ls [])) (hk37 : ∀ {y0 : Nat} {y1 : Nat} {y2 : Nat} {y3 : Int32} {y4 : Int32} {M : ZM}, kh37 y0 y1 y2 y3 y4 M = some Mr → ∀ {H : Heap} {locs : List Loc} {ls : Array Slot}, zWd D cy ad L K len M H → va_S (zA ad L s.heap.size) s.heap H locs → lv_has ls 5 [(0, .ref (ad y0)), (1, .ref (ad y1)), (2, .ref (ad y2)), (3, .int y3), (4, .int y4)] → W p l e (headSpec wsX0_fill ({ frames := 4, cells := 0, slots := 0, locals := 87 } : Room)).room s m args below meth c H locs 0 0 (MQ below (zQv D cy ad L K len Mr s.heap.size) args s 0 0 (zA ad L s.heap.size)) (F0 m 37 ls [])) (h : f_X0_fill_93 N K len kh15 kh37 x0 x1 x2 x3 x4 s0 s1 s2 M = some Mr) {H : Heap} {locs : List Loc} {ls : Array Slot} (hW : zWd D cy ad L K len M H) (hS : va_S (zA ad L s.heap.size) s.heap H locs) (hl : lv_has ls 5 [(0, .ref (ad x0)), (1, .ref (ad x1)), (2, .ref (ad x2)), (3, .int x3), (4, .int x4)]) : W p l e (headSpec wsX0_fill ({ frames := 4, cells := 0, slots := 0, locals := 87 } : Room)).room s m args below meth c H locs 0 0 (MQ below (zQv D cy ad L K len Mr s.heap.size) args s 0 0 (zA ad L s.heap.size)) (F0 m 93 ls [.long s0, .int s1, .ref (ad s2)]) := by
  obtain ⟨hx, hb, hr, hml, hown, hts, hlocks, hK, hL, hE⟩ := id C0
  unfold f_X0_fill_93 at h
  obtain ⟨g1, h⟩ := zg_some h
  refine z_last hx hb hK hL hW hS g1 dX0_fill_93 (fun H locs hW hS => ?_)
  obtain ⟨M2, eM3, h⟩ := zl_some h
  rw [← eM3] at hW
  refine lv_iinc (k := 4) (v := (x4 + 1)) (lv' := [(4, .int (x4 + 1)), (0, .ref (ad x0)), (1, .ref (ad x1)), (2, .ref (ad x2)), (3, .int x3)]) hx hb dX0_fill_94 hl rfl (by rw [show Int32.ofInt 1 = (1 : Int32) from by decide]) (by decide) rfl (fun ls hl => ?_)
  refine lv_goto (tgt := 37) hx hb dX0_fill_97 (by decide) ?_
  exact hk37 h hW hS (lv_sub hl [1, 2, 3, 4, 0] rfl)
def f_X0_fill_37 (N : Nat) (K len : Nat → Nat) (kh15 : Nat → Nat → Nat → Int32 → ZM → Option (ZM)) : Nat → Nat → Nat → Nat → Int32 → Int32 → ZM → Option (ZM)
  | 0, _, _, _, _, _, _ => none
  | n + 1, x0, x1, x2, x3, x4, M =>
    zg (K x0 == 1) (
    (if (zI M x0 1) < x4 then
    kh15 x0 x1 x2 (x3 + 1) M
    else
    (zR M x0 0).bind fun b3 => (
    zg (zok K len b3 16 x3) (
    (zR M b3 x3.toNatClampNeg).bind fun b6 => (
    (f_X2_allows N K len x1 x3 x4 M).bind fun q8 => (
    zg (K x1 == 3) (
    (if q8 = 0 then
    f_X0_fill_93 N K len kh15 (fun y0 y1 y2 y3 y4 M => f_X0_fill_37 N K len kh15 n y0 y1 y2 y3 y4 M) x0 x1 x2 x3 x4 (-9223372036854775808 : Int64) x4 b6 M
    else
    (f_X5_ofArc N K len x2 x1 x3 x4 M).bind fun q12 => (
    zg (K x2 == 6) (
    zg (zin7 x4) (
    f_X0_fill_93 N K len kh15 (fun y0 y1 y2 y3 y4 M => f_X0_fill_37 N K len kh15 n y0 y1 y2 y3 y4 M) x0 x1 x2 x3 x4 ((q12.toInt64 * (117649 : Int64)) - (x3.toInt64 * (zhv x4.toNatClampNeg))) x4 b6 M)))))))))))
set_option maxRecDepth 100000 in
set_option maxHeartbeats 4000000 in
theorem t_X0_fill_37 {p : Program} {l : Launch} {e : Env} {s : State} {m : MethodId} {args : Array Value} {below : List Frame} {meth : Method} {c : Code} {D : va_G} {cy : Nat → ClassId} {ad : Nat → Nat} {L : List Nat} {K len : Nat → Nat} (C0 : zCx p s m c meth args cX0_fill 5 wsX0_fill RX0 none D cy ad L K) (N : Nat) {kh15 : Nat → Nat → Nat → Int32 → ZM → Option (ZM)} {Mr : ZM} (hk15 : ∀ {y0 : Nat} {y1 : Nat} {y2 : Nat} {y3 : Int32} {M : ZM}, kh15 y0 y1 y2 y3 M = some Mr → ∀ {H : Heap} {locs : List Loc} {ls : Array Slot}, zWd D cy ad L K len M H → va_S (zA ad L s.heap.size) s.heap H locs → lv_has ls 5 [(0, .ref (ad y0)), (1, .ref (ad y1)), (2, .ref (ad y2)), (3, .int y3)] → W p l e (headSpec wsX0_fill ({ frames := 4, cells := 0, slots := 0, locals := 87 } : Room)).room s m args below meth c H locs 0 0 (MQ below (zQv D cy ad L K len Mr s.heap.size) args s 0 0 (zA ad L s.heap.size)) (F0 m 15 ls [])) : ∀ (n : Nat) {x0 : Nat} {x1 : Nat} {x2 : Nat} {x3 : Int32} {x4 : Int32} {M : ZM}, f_X0_fill_37 N K len kh15 n x0 x1 x2 x3 x4 M = some Mr → ∀ {H : Heap} {locs : List Loc} {ls : Array Slot}, zWd D cy ad L K len M H → va_S (zA ad L s.heap.size) s.heap H locs → lv_has ls 5 [(0, .ref (ad x0)), (1, .ref (ad x1)), (2, .ref (ad x2)), (3, .int x3), (4, .int x4)] → W p l e (headSpec wsX0_fill ({ frames := 4, cells := 0, slots := 0, locals := 87 } : Room)).room s m args below meth c H locs 0 0 (MQ below (zQv D cy ad L K len Mr s.heap.size) args s 0 0 (zA ad L s.heap.size)) (F0 m 37 ls []) := by
  obtain ⟨hx, hb, hr, hml, hown, hts, hlocks, hK, hL, hE⟩ := id C0
  obtain ⟨-, -, -, -, -, -, zt, hZt, hTt⟩ := id hE
  have hinX0 : ∀ w ∈ wsX00, w ∈ wsX0_fill := by decide +kernel
  intro n
  induction n with
  | zero =>
    intro x0 x1 x2 x3 x4 M h
    cases (show (none : Option (ZM)) = some Mr from h)
  | succ n ih =>
    intro x0 x1 x2 x3 x4 M h H locs ls hW hS hl
    rw [f_X0_fill_37] at h
    refine lv_iload hx hb dX0_fill_37 (lv_at hl 4 rfl) ?_
    refine lv_aload_n hx hb dX0_fill_39 rfl (lv_at hl 0 rfl) ?_
    obtain ⟨g1, h⟩ := zg_some h
    refine z_get (own := RX0) (C := RX0) (T := TX0) (N := 2) (ci := 0) hx hb hts hinX0 hown hK hL hW 1 (zK_of g1) rfl (by decide) (by decide) rfl (hts (.fieldLink RX0 16 "ArcLight$ArcKeys" "last" "I") (by decide +kernel)) (v := .int (zI M x0 1)) rfl dX0_fill_40 ?_
    refine lv_icmp_gt (tgt := 100) hx hb dX0_fill_43 (by decide) (fun c2 => ?_) (fun c2 => ?_)
    · have h := zip c2 h
      refine lv_iinc (k := 3) (v := (x3 + 1)) (lv' := [(3, .int (x3 + 1)), (0, .ref (ad x0)), (1, .ref (ad x1)), (2, .ref (ad x2)), (4, .int x4)]) hx hb dX0_fill_100 hl rfl (by rw [show Int32.ofInt 1 = (1 : Int32) from by decide]) (by decide) rfl (fun ls hl => ?_)
      refine lv_goto (tgt := 15) hx hb dX0_fill_103 (by decide) ?_
      exact hk15 h hW hS (lv_sub hl [1, 2, 3, 0] rfl)
    · have h := zin c2 h
      refine lv_aload_n hx hb dX0_fill_46 rfl (lv_at hl 0 rfl) ?_
      obtain ⟨b3, e4, h⟩ := zb_some h
      refine z_get (own := RX0) (C := RX0) (T := TX0) (N := 2) (ci := 0) hx hb hts hinX0 hown hK hL hW 0 (zK_of g1) rfl (by decide) (by decide) rfl (hts (.fieldLink RX0 11 "ArcLight$ArcKeys" "keys" "[[J") (by decide +kernel)) (v := .ref (ad b3)) (zhvR e4 rfl) dX0_fill_47 ?_
      refine lv_iload_n hx hb dX0_fill_50 rfl (lv_at hl 3 rfl) ?_
      obtain ⟨g5, h⟩ := zg_some h
      obtain ⟨b6, e7, h⟩ := zb_some h
      refine z_aaldS hx hb hK hL hW 16 g5 (by decide) e7 dX0_fill_51 ?_
      refine lv_iload hx hb dX0_fill_52 (lv_at hl 4 rfl) ?_
      refine lv_aload_n hx hb dX0_fill_54 rfl (lv_at hl 1 rfl) ?_
      refine lv_iload_n hx hb dX0_fill_55 rfl (lv_at hl 3 rfl) ?_
      refine lv_iload hx hb dX0_fill_56 (lv_at hl 4 rfl) ?_
      obtain ⟨q8, e9, h⟩ := zb_some h
      obtain ⟨g10, h⟩ := zg_some h
      refine z_calli hS (va_runV (As := [.int x3, .int x4]) (rest := [.int x4, .ref (ad b6)]) ⟨hx, hb, hml, hown, hts⟩ (m_X2_allows l hL N e9 H.size) (cwV 2 hts gX0_fill_X2_allows rfl rfl rfl (by decide +kernel) ⟨Nat.le_of_ble_eq_true rfl, Nat.le_of_ble_eq_true rfl⟩) (z_preV (q := (RX2, TX2, 4)) hK hL hE hW hS (zK_of g10) (by decide) rfl [.int x3, .int x4]) rfl rfl hl.1 rfl (lv_room (Nat.le_of_ble_eq_true rfl)) dX0_fill_58 ⟨Nat.le_of_ble_eq_true rfl, Nat.le_of_ble_eq_true rfl⟩) (fun H locs hW hS => ?_)
      refine lv_if_eq (tgt := 90) hx hb dX0_fill_61 (by decide) (fun c11 => ?_) (fun c11 => ?_)
      · have h := zip c11 h
        refine lv_ldc2 hx hb hown (hts (.constantLong RX0 32 (-9223372036854775808)) (by decide +kernel)) dX0_fill_90 ?_
        exact t_X0_fill_93 C0 N hk15 (fun h _ _ _ hW hS hl => ih h hW hS hl) h hW hS (lv_sub hl [0, 1, 2, 3, 4] rfl)
      · have h := zin c11 h
        refine lv_aload_n hx hb dX0_fill_64 rfl (lv_at hl 2 rfl) ?_
        refine lv_aload_n hx hb dX0_fill_65 rfl (lv_at hl 1 rfl) ?_
        refine lv_iload_n hx hb dX0_fill_66 rfl (lv_at hl 3 rfl) ?_
        refine lv_iload hx hb dX0_fill_67 (lv_at hl 4 rfl) ?_
        obtain ⟨q12, e13, h⟩ := zb_some h
        obtain ⟨g14, h⟩ := zg_some h
        refine z_calli hS (va_runV (As := [.ref (ad x1), .int x3, .int x4]) (rest := [.int x4, .ref (ad b6)]) ⟨hx, hb, hml, hown, hts⟩ (m_X5_ofArc l hL N e13 H.size) (cwV 3 hts gX0_fill_X5_ofArc rfl rfl rfl (by decide +kernel) ⟨Nat.le_of_ble_eq_true rfl, Nat.le_of_ble_eq_true rfl⟩) (z_preV (q := (RX5, TX5, 8)) hK hL hE hW hS (zK_of g14) (by decide) rfl [.ref (ad x1), .int x3, .int x4]) rfl rfl hl.1 rfl (lv_room (Nat.le_of_ble_eq_true rfl)) dX0_fill_69 ⟨Nat.le_of_ble_eq_true rfl, Nat.le_of_ble_eq_true rfl⟩) (fun H locs hW hS => ?_)
        refine lv_i2l hx hb dX0_fill_72 rfl ?_
        refine lv_ldc2 hx hb hown (hts (.constantLong RX0 44 (117649)) (by decide +kernel)) dX0_fill_73 ?_
        refine lv_lmul hx hb dX0_fill_76 ?_
        refine lv_iload_n hx hb dX0_fill_77 rfl (lv_at hl 3 rfl) ?_
        refine lv_i2l hx hb dX0_fill_78 rfl ?_
        refine va_getsN (own := RX0) (ref := "ArcLight") (host := "ArcLight") hx hb hZt hS hown (va_Nw.use rfl (hE.1 (.fieldLinkNest RX0 46 "ArcLight" "HEAD_VALUES" "[J" "ArcLight") (by decide +kernel))) (fun _ h => h) dX0_fill_79 ?_
        refine lv_iload hx hb dX0_fill_82 (lv_at hl 4 rfl) ?_
        obtain ⟨g15, h⟩ := zg_some h
        refine va_tl hx hb hTt hS (zin7_in g15) (v := .long (zhv x4.toNatClampNeg)) rfl dX0_fill_84 ?_
        refine lv_lmul hx hb dX0_fill_85 ?_
        refine lv_lsub hx hb dX0_fill_86 ?_
        refine lv_goto (tgt := 93) hx hb dX0_fill_87 (by decide) ?_
        exact t_X0_fill_93 C0 N hk15 (fun h _ _ _ hW hS hl => ih h hW hS hl) h hW hS (lv_sub hl [0, 1, 2, 3, 4] rfl)
def f_X0_fill_15 (N : Nat) (K len : Nat → Nat) : Nat → Nat → Nat → Nat → Int32 → ZM → Option (ZM)
  | 0, _, _, _, _, _ => none
  | n + 1, x0, x1, x2, x3, M =>
    zg (K x0 == 1) (
    (if (zI M x0 1) < x3 then
    some M
    else
    (zR M x0 0).bind fun b3 => (
    zg (zok K len b3 16 x3) (
    (zR M b3 x3.toNatClampNeg).bind fun b6 => (
    zg (zok K len b6 12 (0 : Int32)) (
    zl (zsJ M b6 (0 : Int32).toNatClampNeg (-9223372036854775808 : Int64)) fun M9 => (
    f_X0_fill_37 N K len (fun y0 y1 y2 y3 M => f_X0_fill_15 N K len  n y0 y1 y2 y3 M) N x0 x1 x2 x3 (1 : Int32) M9)))))))
set_option maxRecDepth 100000 in
set_option maxHeartbeats 4000000 in
theorem t_X0_fill_15 {p : Program} {l : Launch} {e : Env} {s : State} {m : MethodId} {args : Array Value} {below : List Frame} {meth : Method} {c : Code} {D : va_G} {cy : Nat → ClassId} {ad : Nat → Nat} {L : List Nat} {K len : Nat → Nat} (C0 : zCx p s m c meth args cX0_fill 5 wsX0_fill RX0 none D cy ad L K) (N : Nat) {Mr : ZM} : ∀ (n : Nat) {x0 : Nat} {x1 : Nat} {x2 : Nat} {x3 : Int32} {M : ZM}, f_X0_fill_15 N K len n x0 x1 x2 x3 M = some Mr → ∀ {H : Heap} {locs : List Loc} {ls : Array Slot}, zWd D cy ad L K len M H → va_S (zA ad L s.heap.size) s.heap H locs → lv_has ls 5 [(0, .ref (ad x0)), (1, .ref (ad x1)), (2, .ref (ad x2)), (3, .int x3)] → W p l e (headSpec wsX0_fill ({ frames := 4, cells := 0, slots := 0, locals := 87 } : Room)).room s m args below meth c H locs 0 0 (MQ below (zQv D cy ad L K len Mr s.heap.size) args s 0 0 (zA ad L s.heap.size)) (F0 m 15 ls []) := by
  obtain ⟨hx, hb, hr, hml, hown, hts, hlocks, hK, hL, hE⟩ := id C0
  have hinX0 : ∀ w ∈ wsX00, w ∈ wsX0_fill := by decide +kernel
  intro n
  induction n with
  | zero =>
    intro x0 x1 x2 x3 M h
    cases (show (none : Option (ZM)) = some Mr from h)
  | succ n ih =>
    intro x0 x1 x2 x3 M h H locs ls hW hS hl
    rw [f_X0_fill_15] at h
    refine lv_iload_n hx hb dX0_fill_15 rfl (lv_at hl 3 rfl) ?_
    refine lv_aload_n hx hb dX0_fill_16 rfl (lv_at hl 0 rfl) ?_
    obtain ⟨g1, h⟩ := zg_some h
    refine z_get (own := RX0) (C := RX0) (T := TX0) (N := 2) (ci := 0) hx hb hts hinX0 hown hK hL hW 1 (zK_of g1) rfl (by decide) (by decide) rfl (hts (.fieldLink RX0 16 "ArcLight$ArcKeys" "last" "I") (by decide +kernel)) (v := .int (zI M x0 1)) rfl dX0_fill_17 ?_
    refine lv_icmp_gt (tgt := 106) hx hb dX0_fill_20 (by decide) (fun c2 => ?_) (fun c2 => ?_)
    · have h := zip c2 h
      exact z_vret hx hb hr hlocks hW hS (Option.some.inj h) dX0_fill_106
    · have h := zin c2 h
      refine lv_aload_n hx hb dX0_fill_23 rfl (lv_at hl 0 rfl) ?_
      obtain ⟨b3, e4, h⟩ := zb_some h
      refine z_get (own := RX0) (C := RX0) (T := TX0) (N := 2) (ci := 0) hx hb hts hinX0 hown hK hL hW 0 (zK_of g1) rfl (by decide) (by decide) rfl (hts (.fieldLink RX0 11 "ArcLight$ArcKeys" "keys" "[[J") (by decide +kernel)) (v := .ref (ad b3)) (zhvR e4 rfl) dX0_fill_24 ?_
      refine lv_iload_n hx hb dX0_fill_27 rfl (lv_at hl 3 rfl) ?_
      obtain ⟨g5, h⟩ := zg_some h
      obtain ⟨b6, e7, h⟩ := zb_some h
      refine z_aaldS hx hb hK hL hW 16 g5 (by decide) e7 dX0_fill_28 ?_
      refine lv_iconst (v := 0) hx hb dX0_fill_29 (by decide) ?_
      refine lv_ldc2 hx hb hown (hts (.constantLong RX0 32 (-9223372036854775808)) (by decide +kernel)) dX0_fill_30 ?_
      obtain ⟨g8, h⟩ := zg_some h
      refine z_last hx hb hK hL hW hS g8 dX0_fill_33 (fun H locs hW hS => ?_)
      obtain ⟨M9, eM10, h⟩ := zl_some h
      rw [← eM10] at hW
      refine lv_iconst (v := 1) hx hb dX0_fill_34 (by decide) ?_
      refine lv_istore (lv' := [(4, .int (1 : Int32)), (0, .ref (ad x0)), (1, .ref (ad x1)), (2, .ref (ad x2)), (3, .int x3)]) hx hb dX0_fill_35 hl (by decide) rfl (fun ls hl => ?_)
      exact t_X0_fill_37 C0 N (fun h _ _ _ hW hS hl => ih h hW hS hl) N h hW hS (lv_sub hl [1, 2, 3, 4, 0] rfl)
def f_X0_fill_0 (N : Nat) (K len : Nat → Nat) (x0 : Nat) (x1 : Nat) (x2 : Nat) (M : ZM) : Option (ZM) :=
(f_X2_size N K len x1 M).bind fun q1 => (
zg (K x1 == 3) (
zg (K x0 == 1) (
zl (zsI M x0 1 (if (6 : Int32) < q1 then (6 : Int32) else q1)) fun M5 => (
f_X0_fill_15 N K len  N x0 x1 x2 (0 : Int32) M5))))
set_option maxRecDepth 100000 in
set_option maxHeartbeats 4000000 in
theorem t_X0_fill_0 {p : Program} {l : Launch} {e : Env} {s : State} {m : MethodId} {args : Array Value} {below : List Frame} {meth : Method} {c : Code} {D : va_G} {cy : Nat → ClassId} {ad : Nat → Nat} {L : List Nat} {K len : Nat → Nat} (C0 : zCx p s m c meth args cX0_fill 5 wsX0_fill RX0 none D cy ad L K) (N : Nat) {x0 : Nat} {x1 : Nat} {x2 : Nat} {M : ZM} {Mr : ZM} (h : f_X0_fill_0 N K len x0 x1 x2 M = some Mr) {H : Heap} {locs : List Loc} {ls : Array Slot} (hW : zWd D cy ad L K len M H) (hS : va_S (zA ad L s.heap.size) s.heap H locs) (hl : lv_has ls 5 [(0, .ref (ad x0)), (1, .ref (ad x1)), (2, .ref (ad x2))]) : W p l e (headSpec wsX0_fill ({ frames := 4, cells := 0, slots := 0, locals := 87 } : Room)).room s m args below meth c H locs 0 0 (MQ below (zQv D cy ad L K len Mr s.heap.size) args s 0 0 (zA ad L s.heap.size)) (F0 m 0 ls []) := by
  obtain ⟨hx, hb, hr, hml, hown, hts, hlocks, hK, hL, hE⟩ := id C0
  have hinX0 : ∀ w ∈ wsX00, w ∈ wsX0_fill := by decide +kernel
  unfold f_X0_fill_0 at h
  refine lv_aload_n hx hb dX0_fill_0 rfl (lv_at hl 0 rfl) ?_
  refine lv_aload_n hx hb dX0_fill_1 rfl (lv_at hl 1 rfl) ?_
  obtain ⟨q1, e2, h⟩ := zb_some h
  obtain ⟨g3, h⟩ := zg_some h
  refine z_calli hS (va_runV (As := []) (rest := [.ref (ad x0)]) ⟨hx, hb, hml, hown, hts⟩ (m_X2_size l hL N e2 H.size) (cwV 0 hts gX0_fill_X2_size rfl rfl rfl (by decide +kernel) ⟨Nat.le_of_ble_eq_true rfl, Nat.le_of_ble_eq_true rfl⟩) (z_preV (q := (RX2, TX2, 4)) hK hL hE hW hS (zK_of g3) (by decide) rfl []) rfl rfl hl.1 rfl (lv_room (Nat.le_of_ble_eq_true rfl)) dX0_fill_2 ⟨Nat.le_of_ble_eq_true rfl, Nat.le_of_ble_eq_true rfl⟩) (fun H locs hW hS => ?_)
  refine lv_bipush (v := 6) hx hb dX0_fill_5 (by decide) ?_
  refine va_mmin (own := RX0) hx hb (hml.trans hl.1.symm) hown (hts (.methodLink RX0 26 Lib.Math.min.name) (by decide +kernel)) (hts (.static Lib.Math.min.name) (by decide +kernel)) (hts (.initialized "java/lang/Math") (by decide +kernel)) (hts (.code Lib.Math.min.name Lib.Math.min.code 2 (some .int)) (by decide +kernel)) (Nat.le_of_ble_eq_true rfl) (Nat.le_of_ble_eq_true rfl) (Nat.zero_le _) (Nat.zero_le _) dX0_fill_7 ?_
  obtain ⟨g4, h⟩ := zg_some h
  refine z_put (own := RX0) (C := RX0) (T := TX0) (N := 2) (ci := 0) (v := .int (if (6 : Int32) < q1 then (6 : Int32) else q1)) (M' := zsI M x0 1 (if (6 : Int32) < q1 then (6 : Int32) else q1)) hx hb hts hinX0 tyX0 tyX0_ok nmX0 hown hK hL hW hS 1 (zK_of g4) rfl (by decide) (by decide) rfl (hts (.fieldLink RX0 16 "ArcLight$ArcKeys" "last" "I") (by decide +kernel)) rfl (ty := .int) (by decide +kernel) rfl rfl (Nat.le_of_ble_eq_true rfl) dX0_fill_10 (zM_I (zK_of g4) (by decide) rfl) (fun H locs hW hS => ?_)
  obtain ⟨M5, eM6, h⟩ := zl_some h
  rw [← eM6] at hW
  refine lv_iconst (v := 0) hx hb dX0_fill_13 (by decide) ?_
  refine lv_istore_n (lv' := [(3, .int (0 : Int32)), (0, .ref (ad x0)), (1, .ref (ad x1)), (2, .ref (ad x2))]) hx hb dX0_fill_14 rfl hl (by decide) rfl (fun ls hl => ?_)
  exact t_X0_fill_15 C0 N  N h hW hS (lv_sub hl [1, 2, 3, 0] rfl)
def f_X0_fill (N : Nat) (K len : Nat → Nat) (a0 : Nat) (a1 : Nat) (a2 : Nat) (M : ZM) : Option (ZM) := f_X0_fill_0 N K len a0 a1 a2 M
set_option maxRecDepth 100000 in
set_option maxHeartbeats 4000000 in
theorem m_X0_fill (l : Launch) {D : va_G} {cy : Nat → ClassId} {ad : Nat → Nat} {L : List Nat} {K len : Nat → Nat} (hL : zSh ad L K) (N : Nat) {a0 : Nat} {a1 : Nat} {a2 : Nat} {M : ZM} {Mr : ZM} (h : f_X0_fill N K len a0 a1 a2 M = some Mr) (sz : Nat) : Met l yX0_fill wsX0_fill ({ frames := 4, cells := 0, slots := 0, locals := 87 } : Room) (zPre D cy ad L K len sz [.ref (ad a0), .ref (ad a1), .ref (ad a2)] M) (zQv D cy ad L K len Mr sz) 0 0 (zA ad L sz) :=
  z_entry (Qf := fun sz => zQv D cy ad L K len Mr sz) (av := [.ref (ad a0), .ref (ad a1), .ref (ad a2)]) (by decide) rfl rfl hL (Nat.le_of_ble_eq_true rfl) (fun p e s m args below meth c C0 H locs ls hW hS hl => t_X0_fill_0 C0 N h hW hS (lv_sub hl [0, 1, 2] rfl))

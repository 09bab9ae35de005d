/-! Walks laid by program (wip/whole/gen): X1_takenHead, X1_takenKey, X1_takeGreatest, X1_findCircle, X1_groupNodes, X1_offer, X1_contract, X1_greatest -/
def f_X1_takenHead_0 (N : Nat) (K len : Nat → Nat) (x0 : Nat) (x1 : Int32) (M : ZM) : Option (Int32) :=
(if x1 ≤ 0 then
some (0 : Int32)
else
zg (K x0 == 2) (
(if (zI M x0 4) ≤ x1 then
some (0 : Int32)
else
(zR M x0 2).bind fun b4 => (
zg (zok K len b4 11 x1) (
some (zI M b4 x1.toNatClampNeg))))))
set_option maxRecDepth 100000 in
set_option maxHeartbeats 4000000 in
theorem t_X1_takenHead_0 {p : Program} {l : Launch} {e : Env} {s : State} {m : MethodId} {args : Array Value} {below : List Frame} {meth : Method} {c : Code} {D : va_G} {cy : Nat → ClassId} {ad : Nat → Nat} {L : List Nat} {K len : Nat → Nat} (C0 : zCx p s m c meth args cX1_takenHead 2 wsX1_takenHead RX1 (some .int) D cy ad L K) (N : Nat) {x0 : Nat} {x1 : Int32} {M : ZM} {r : Int32} (h : f_X1_takenHead_0 N K len x0 x1 M = some r) {H : Heap} {locs : List Loc} {ls : Array Slot} (hW : zWd D cy ad L K len M H) (hS : va_S (zA ad L s.heap.size) s.heap H locs) (hl : lv_has ls 2 [(0, .ref (ad x0)), (1, .int x1)]) : W p l e (headSpec wsX1_takenHead ({ frames := 0, cells := 0, slots := 0, locals := 0 } : Room)).room s m args below meth c H locs 0 0 (MQ below (zQi D cy ad L K len r M s.heap.size) args s 0 0 (zA ad L s.heap.size)) (F0 m 0 ls []) := by
  obtain ⟨hx, hb, hr, hml, hown, hts, hlocks, hK, hL, hE⟩ := id C0
  have hinX1 : ∀ w ∈ wsX10, w ∈ wsX1_takenHead := by decide +kernel
  unfold f_X1_takenHead_0 at h
  refine lv_iload_n hx hb dX1_takenHead_0 rfl (lv_at hl 1 rfl) ?_
  refine lv_if_le (tgt := 21) hx hb dX1_takenHead_1 (by decide) (fun c1 => ?_) (fun c1 => ?_)
  · have h := zip c1 h
    refine lv_iconst (v := 0) hx hb dX1_takenHead_21 (by decide) ?_
    exact z_iret hx hb hr hlocks hW hS (Option.some.inj h) rfl dX1_takenHead_22
  · have h := zin c1 h
    refine lv_iload_n hx hb dX1_takenHead_4 rfl (lv_at hl 1 rfl) ?_
    refine lv_aload_n hx hb dX1_takenHead_5 rfl (lv_at hl 0 rfl) ?_
    obtain ⟨g2, h⟩ := zg_some h
    refine z_get (own := RX1) (C := RX1) (T := TX1) (N := 5) (ci := 1) hx hb hts hinX1 hown hK hL hW 4 (zK_of g2) rfl (by decide) (by decide) rfl (hts (.fieldLink RX1 26 "ArcLight$Circles" "nodes" "I") (by decide +kernel)) (v := .int (zI M x0 4)) rfl dX1_takenHead_6 ?_
    refine lv_icmp_ge (tgt := 21) hx hb dX1_takenHead_9 (by decide) (fun c3 => ?_) (fun c3 => ?_)
    · have h := zip c3 h
      refine lv_iconst (v := 0) hx hb dX1_takenHead_21 (by decide) ?_
      exact z_iret hx hb hr hlocks hW hS (Option.some.inj h) rfl dX1_takenHead_22
    · have h := zin c3 h
      refine lv_aload_n hx hb dX1_takenHead_12 rfl (lv_at hl 0 rfl) ?_
      obtain ⟨b4, e5, h⟩ := zb_some h
      refine z_get (own := RX1) (C := RX1) (T := TX1) (N := 5) (ci := 1) hx hb hts hinX1 hown hK hL hW 2 (zK_of g2) rfl (by decide) (by decide) rfl (hts (.fieldLink RX1 19 "ArcLight$Circles" "taken" "[I") (by decide +kernel)) (v := .ref (ad b4)) (zhvR e5 rfl) dX1_takenHead_13 ?_
      refine lv_iload_n hx hb dX1_takenHead_16 rfl (lv_at hl 1 rfl) ?_
      obtain ⟨g6, h⟩ := zg_some h
      refine z_iald hx hb hK hL hW g6 dX1_takenHead_17 ?_
      refine lv_goto (tgt := 22) hx hb dX1_takenHead_18 (by decide) ?_
      exact z_iret hx hb hr hlocks hW hS (Option.some.inj h) rfl dX1_takenHead_22
def f_X1_takenHead (N : Nat) (K len : Nat → Nat) (a0 : Nat) (a1 : Int32) (M : ZM) : Option (Int32) := f_X1_takenHead_0 N K len a0 a1 M
set_option maxRecDepth 100000 in
set_option maxHeartbeats 4000000 in
theorem m_X1_takenHead (l : Launch) {D : va_G} {cy : Nat → ClassId} {ad : Nat → Nat} {L : List Nat} {K len : Nat → Nat} (hL : zSh ad L K) (N : Nat) {a0 : Nat} {a1 : Int32} {M : ZM} {r : Int32} (h : f_X1_takenHead N K len a0 a1 M = some r) (sz : Nat) : Met l yX1_takenHead wsX1_takenHead ({ frames := 0, cells := 0, slots := 0, locals := 0 } : Room) (zPre D cy ad L K len sz [.ref (ad a0), .int a1] M) (zQi D cy ad L K len r M sz) 0 0 (zA ad L sz) :=
  z_entry (Qf := fun sz => zQi D cy ad L K len r M sz) (av := [.ref (ad a0), .int a1]) (by decide) rfl rfl hL (Nat.le_of_ble_eq_true rfl) (fun p e s m args below meth c C0 H locs ls hW hS hl => t_X1_takenHead_0 C0 N h hW hS (lv_sub hl [0, 1] rfl))
def f_X1_takenKey_31 (N : Nat) (K len : Nat → Nat) (M : ZM) : Option (Int64) :=
some (-9223372036854775808 : Int64)
set_option maxRecDepth 100000 in
set_option maxHeartbeats 4000000 in
theorem t_X1_takenKey_31 {p : Program} {l : Launch} {e : Env} {s : State} {m : MethodId} {args : Array Value} {below : List Frame} {meth : Method} {c : Code} {D : va_G} {cy : Nat → ClassId} {ad : Nat → Nat} {L : List Nat} {K len : Nat → Nat} (C0 : zCx p s m c meth args cX1_takenKey 3 wsX1_takenKey RX1 (some .long) D cy ad L K) (N : Nat) {M : ZM} {r : Int64} (h : f_X1_takenKey_31 N K len M = some r) {H : Heap} {locs : List Loc} {ls : Array Slot} (hW : zWd D cy ad L K len M H) (hS : va_S (zA ad L s.heap.size) s.heap H locs) (hl : lv_has ls 3 []) : W p l e (headSpec wsX1_takenKey ({ frames := 1, cells := 0, slots := 0, locals := 21 } : Room)).room s m args below meth c H locs 0 0 (MQ below (zQl D cy ad L K len r M s.heap.size) args s 0 0 (zA ad L s.heap.size)) (F0 m 31 ls []) := by
  obtain ⟨hx, hb, hr, hml, hown, hts, hlocks, hK, hL, hE⟩ := id C0
  unfold f_X1_takenKey_31 at h
  refine lv_ldc2 hx hb hown (hts (.constantLong RX1 50 (-9223372036854775808)) (by decide +kernel)) dX1_takenKey_31 ?_
  exact z_lret hx hb hr hlocks hW hS (Option.some.inj h) rfl dX1_takenKey_34
def f_X1_takenKey_0 (N : Nat) (K len : Nat → Nat) (x0 : Nat) (x1 : Int32) (M : ZM) : Option (Int64) :=
(f_X1_takenHead N K len x0 x1 M).bind fun q1 => (
zg (K x0 == 2) (
(f_X6_isPlace N q1).bind fun q4 => (
(if q4 = 0 then
f_X1_takenKey_31 N K len  M
else
(f_X6_isPlace N x1).bind fun q7 => (
(if q7 = 0 then
f_X1_takenKey_31 N K len  M
else
(zR M x0 0).bind fun b10 => (
zg (zok K len b10 16 q1) (
(zR M b10 q1.toNatClampNeg).bind fun b13 => (
zg (zok K len b13 12 x1) (
some (zJ M b13 x1.toNatClampNeg)))))))))))
set_option maxRecDepth 100000 in
set_option maxHeartbeats 4000000 in
theorem t_X1_takenKey_0 {p : Program} {l : Launch} {e : Env} {s : State} {m : MethodId} {args : Array Value} {below : List Frame} {meth : Method} {c : Code} {D : va_G} {cy : Nat → ClassId} {ad : Nat → Nat} {L : List Nat} {K len : Nat → Nat} (C0 : zCx p s m c meth args cX1_takenKey 3 wsX1_takenKey RX1 (some .long) D cy ad L K) (N : Nat) {x0 : Nat} {x1 : Int32} {M : ZM} {r : Int64} (h : f_X1_takenKey_0 N K len x0 x1 M = some r) {H : Heap} {locs : List Loc} {ls : Array Slot} (hW : zWd D cy ad L K len M H) (hS : va_S (zA ad L s.heap.size) s.heap H locs) (hl : lv_has ls 3 [(0, .ref (ad x0)), (1, .int x1)]) : W p l e (headSpec wsX1_takenKey ({ frames := 1, cells := 0, slots := 0, locals := 21 } : Room)).room s m args below meth c H locs 0 0 (MQ below (zQl D cy ad L K len r M s.heap.size) args s 0 0 (zA ad L s.heap.size)) (F0 m 0 ls []) := by
  obtain ⟨hx, hb, hr, hml, hown, hts, hlocks, hK, hL, hE⟩ := id C0
  have hinX1 : ∀ w ∈ wsX10, w ∈ wsX1_takenKey := by decide +kernel
  unfold f_X1_takenKey_0 at h
  refine lv_aload_n hx hb dX1_takenKey_0 rfl (lv_at hl 0 rfl) ?_
  refine lv_iload_n hx hb dX1_takenKey_1 rfl (lv_at hl 1 rfl) ?_
  obtain ⟨q1, e2, h⟩ := zb_some h
  obtain ⟨g3, h⟩ := zg_some h
  refine z_calli hS (va_runV (As := [.int x1]) (rest := []) ⟨hx, hb, hml, hown, hts⟩ (m_X1_takenHead l hL N e2 H.size) (cwV 1 hts gX1_takenKey_X1_takenHead rfl rfl rfl (by decide +kernel) ⟨Nat.le_of_ble_eq_true rfl, Nat.le_of_ble_eq_true rfl⟩) (z_preV (q := (RX1, TX1, 5)) hK hL hE hW hS (zK_of g3) (by decide) rfl [.int x1]) rfl rfl hl.1 rfl (lv_room (Nat.le_of_ble_eq_true rfl)) dX1_takenKey_2 ⟨Nat.le_of_ble_eq_true rfl, Nat.le_of_ble_eq_true rfl⟩) (fun H locs hW hS => ?_)
  refine lv_istore_n (lv' := [(2, .int q1), (0, .ref (ad x0)), (1, .int x1)]) hx hb dX1_takenKey_5 rfl hl (by decide) rfl (fun ls hl => ?_)
  refine lv_iload_n hx hb dX1_takenKey_6 rfl (lv_at hl 0 rfl) ?_
  obtain ⟨q4, e5, h⟩ := zb_some h
  refine z_calli hS (va_runSN (As := [.int q1]) (rest := []) ⟨hx, hb, hml, hown, hts⟩ (m_X6_isPlace l (M := M) hL N e5 H.size) ⟨va_cnB (host := "ArcLight") 1 hts gX1_takenKey_X6_isPlace_n67 rfl rfl rfl (hE.1 (.methodLinkNest RX1 67 yX6_isPlace "ArcLight") (by decide +kernel)) (hts (.initialized RX6) (by decide +kernel)) (by decide +kernel) ⟨Nat.le_of_ble_eq_true rfl, Nat.le_of_ble_eq_true rfl⟩, hts (.static yX6_isPlace) (by decide +kernel), trivial⟩ (z_preS hK hE hW hS [.int q1]) rfl rfl hl.1 rfl (lv_room (Nat.le_of_ble_eq_true rfl)) dX1_takenKey_7 ⟨Nat.le_of_ble_eq_true rfl, Nat.le_of_ble_eq_true rfl⟩) (fun H locs hW hS => ?_)
  refine lv_if_eq (tgt := 31) hx hb dX1_takenKey_10 (by decide) (fun c6 => ?_) (fun c6 => ?_)
  · have h := zip c6 h
    exact t_X1_takenKey_31 C0 N  h hW hS (lv_sub hl [] rfl)
  · have h := zin c6 h
    refine lv_iload_n hx hb dX1_takenKey_13 rfl (lv_at hl 2 rfl) ?_
    obtain ⟨q7, e8, h⟩ := zb_some h
    refine z_calli hS (va_runSN (As := [.int x1]) (rest := []) ⟨hx, hb, hml, hown, hts⟩ (m_X6_isPlace l (M := M) hL N e8 H.size) ⟨va_cnB (host := "ArcLight") 1 hts gX1_takenKey_X6_isPlace_n67 rfl rfl rfl (hE.1 (.methodLinkNest RX1 67 yX6_isPlace "ArcLight") (by decide +kernel)) (hts (.initialized RX6) (by decide +kernel)) (by decide +kernel) ⟨Nat.le_of_ble_eq_true rfl, Nat.le_of_ble_eq_true rfl⟩, hts (.static yX6_isPlace) (by decide +kernel), trivial⟩ (z_preS hK hE hW hS [.int x1]) rfl rfl hl.1 rfl (lv_room (Nat.le_of_ble_eq_true rfl)) dX1_takenKey_14 ⟨Nat.le_of_ble_eq_true rfl, Nat.le_of_ble_eq_true rfl⟩) (fun H locs hW hS => ?_)
    refine lv_if_eq (tgt := 31) hx hb dX1_takenKey_17 (by decide) (fun c9 => ?_) (fun c9 => ?_)
    · have h := zip c9 h
      exact t_X1_takenKey_31 C0 N  h hW hS (lv_sub hl [] rfl)
    · have h := zin c9 h
      refine lv_aload_n hx hb dX1_takenKey_20 rfl (lv_at hl 1 rfl) ?_
      obtain ⟨b10, e11, h⟩ := zb_some h
      refine z_get (own := RX1) (C := RX1) (T := TX1) (N := 5) (ci := 1) hx hb hts hinX1 hown hK hL hW 0 (zK_of g3) rfl (by decide) (by decide) rfl (hts (.fieldLink RX1 11 "ArcLight$Circles" "keys" "[[J") (by decide +kernel)) (v := .ref (ad b10)) (zhvR e11 rfl) dX1_takenKey_21 ?_
      refine lv_iload_n hx hb dX1_takenKey_24 rfl (lv_at hl 0 rfl) ?_
      obtain ⟨g12, h⟩ := zg_some h
      obtain ⟨b13, e14, h⟩ := zb_some h
      refine z_aaldS hx hb hK hL hW 16 g12 (by decide) e14 dX1_takenKey_25 ?_
      refine lv_iload_n hx hb dX1_takenKey_26 rfl (lv_at hl 2 rfl) ?_
      obtain ⟨g15, h⟩ := zg_some h
      refine z_lald hx hb hK hL hW g15 dX1_takenKey_27 ?_
      refine lv_goto (tgt := 34) hx hb dX1_takenKey_28 (by decide) ?_
      exact z_lret hx hb hr hlocks hW hS (Option.some.inj h) rfl dX1_takenKey_34
def f_X1_takenKey (N : Nat) (K len : Nat → Nat) (a0 : Nat) (a1 : Int32) (M : ZM) : Option (Int64) := f_X1_takenKey_0 N K len a0 a1 M
set_option maxRecDepth 100000 in
set_option maxHeartbeats 4000000 in
theorem m_X1_takenKey (l : Launch) {D : va_G} {cy : Nat → ClassId} {ad : Nat → Nat} {L : List Nat} {K len : Nat → Nat} (hL : zSh ad L K) (N : Nat) {a0 : Nat} {a1 : Int32} {M : ZM} {r : Int64} (h : f_X1_takenKey N K len a0 a1 M = some r) (sz : Nat) : Met l yX1_takenKey wsX1_takenKey ({ frames := 1, cells := 0, slots := 0, locals := 21 } : Room) (zPre D cy ad L K len sz [.ref (ad a0), .int a1] M) (zQl D cy ad L K len r M sz) 0 0 (zA ad L sz) :=
  z_entry (Qf := fun sz => zQl D cy ad L K len r M sz) (av := [.ref (ad a0), .int a1]) (by decide) rfl rfl hL (Nat.le_of_ble_eq_true rfl) (fun p e s m args below meth c C0 H locs ls hW hS hl => t_X1_takenKey_0 C0 N h hW hS (lv_sub hl [0, 1] rfl))
def f_X1_takeGreatest_57 (N : Nat) (K len : Nat → Nat) (kh4 : Nat → Int64 → Int32 → ZM → Option (Int64 × ZM)) (kh22 : Nat → Int64 → Int32 → Int32 → ZM → Option (Int64 × ZM)) (x0 : Nat) (x1 : Int64) (x3 : Int32) (x4 : Int32) (M : ZM) : Option (Int64 × ZM) :=
kh22 x0 x1 x3 (x4 + 1) M
set_option maxRecDepth 100000 in
set_option maxHeartbeats 4000000 in
theorem t_X1_takeGreatest_57 {p : Program} {l : Launch} {e : Env} {s : State} {m : MethodId} {args : Array Value} {below : List Frame} {meth : Method} {c : Code} {D : va_G} {cy : Nat → ClassId} {ad : Nat → Nat} {L : List Nat} {K len : Nat → Nat} (C0 : zCx p s m c meth args cX1_takeGreatest 5 wsX1_takeGreatest RX1 (some .long) D cy ad L K) (N : Nat) {kh4 : Nat → Int64 → Int32 → ZM → Option (Int64 × ZM)} {kh22 : Nat → Int64 → Int32 → Int32 → ZM → Option (Int64 × ZM)} {x0 : Nat} {x1 : Int64} {x3 : Int32} {x4 : Int32} {M : ZM} {r : Int64} {Mr : ZM} (hk4 : ∀ {y0 : Nat} {y1 : Int64} {y3 : Int32} {M : ZM}, kh4 y0 y1 y3 M = some (r, Mr) → ∀ {H : Heap} {locs : List Loc} {ls : Array Slot}, zWd D cy ad L K len M H → va_S (zA ad L s.heap.size) s.heap H locs → lv_has ls 5 [(0, .ref (ad y0)), (1, .long y1), (3, .int y3)] → W p l e (headSpec wsX1_takeGreatest ({ frames := 2, cells := 0, slots := 0, locals := 43 } : Room)).room s m args below meth c H locs 0 0 (MQ below (zQl D cy ad L K len r Mr s.heap.size) args s 0 0 (zA ad L s.heap.size)) (F0 m 4 ls [])) (hk22 : ∀ {y0 : Nat} {y1 : Int64} {y3 : Int32} {y4 : Int32} {M : ZM}, kh22 y0 y1 y3 y4 M = some (r, Mr) → ∀ {H : Heap} {locs : List Loc} {ls : Array Slot}, zWd D cy ad L K len M H → va_S (zA ad L s.heap.size) s.heap H locs → lv_has ls 5 [(0, .ref (ad y0)), (1, .long y1), (3, .int y3), (4, .int y4)] → W p l e (headSpec wsX1_takeGreatest ({ frames := 2, cells := 0, slots := 0, locals := 43 } : Room)).room s m args below meth c H locs 0 0 (MQ below (zQl D cy ad L K len r Mr s.heap.size) args s 0 0 (zA ad L s.heap.size)) (F0 m 22 ls [])) (h : f_X1_takeGreatest_57 N K len kh4 kh22 x0 x1 x3 x4 M = some (r, Mr)) {H : Heap} {locs : List Loc} {ls : Array Slot} (hW : zWd D cy ad L K len M H) (hS : va_S (zA ad L s.heap.size) s.heap H locs) (hl : lv_has ls 5 [(0, .ref (ad x0)), (1, .long x1), (3, .int x3), (4, .int x4)]) : W p l e (headSpec wsX1_takeGreatest ({ frames := 2, cells := 0, slots := 0, locals := 43 } : Room)).room s m args below meth c H locs 0 0 (MQ below (zQl D cy ad L K len r Mr s.heap.size) args s 0 0 (zA ad L s.heap.size)) (F0 m 57 ls []) := by
  obtain ⟨hx, hb, hr, hml, hown, hts, hlocks, hK, hL, hE⟩ := id C0
  unfold f_X1_takeGreatest_57 at h
  refine lv_iinc (k := 3) (v := (x4 + 1)) (lv' := [(4, .int (x4 + 1)), (0, .ref (ad x0)), (1, .long x1), (3, .int x3)]) hx hb dX1_takeGreatest_57 hl rfl (by rw [show Int32.ofInt 1 = (1 : Int32) from by decide]) (by decide) rfl (fun ls hl => ?_)
  refine lv_goto (tgt := 22) hx hb dX1_takeGreatest_60 (by decide) ?_
  exact hk22 h hW hS (lv_sub hl [1, 2, 3, 0] rfl)
def f_X1_takeGreatest_22 (N : Nat) (K len : Nat → Nat) (kh4 : Nat → Int64 → Int32 → ZM → Option (Int64 × ZM)) : Nat → Nat → Int64 → Int32 → Int32 → ZM → Option (Int64 × ZM)
  | 0, _, _, _, _, _ => none
  | n + 1, x0, x1, x3, x4, M =>
    zg (K x0 == 2) (
    (if (zI M x0 4) ≤ x4 then
    (f_X1_takenKey N K len x0 x3 M).bind fun q3 => (
    (if q3 = (-9223372036854775808 : Int64) then
    some ((-9223372036854775808 : Int64), M)
    else
    (f_X1_takenKey N K len x0 x3 M).bind fun q6 => (
    kh4 x0 (x1 + q6) (x3 + 1) M)))
    else
    (zR M x0 0).bind fun b8 => (
    zg (zok K len b8 16 x4) (
    (zR M b8 x4.toNatClampNeg).bind fun b11 => (
    zg (zok K len b11 12 x3) (
    (f_X1_takenKey N K len x0 x3 M).bind fun q14 => (
    (if (zJ M b11 x3.toNatClampNeg) ≤ q14 then
    f_X1_takeGreatest_57 N K len kh4 (fun y0 y1 y3 y4 M => f_X1_takeGreatest_22 N K len kh4 n y0 y1 y3 y4 M) x0 x1 x3 x4 M
    else
    (zR M x0 2).bind fun b17 => (
    zg (zok K len b17 11 x3) (
    zl (zsI M b17 x3.toNatClampNeg x4) fun M20 => (
    f_X1_takeGreatest_57 N K len kh4 (fun y0 y1 y3 y4 M => f_X1_takeGreatest_22 N K len kh4 n y0 y1 y3 y4 M) x0 x1 x3 x4 M20)))))))))))
set_option maxRecDepth 100000 in
set_option maxHeartbeats 4000000 in
theorem t_X1_takeGreatest_22 {p : Program} {l : Launch} {e : Env} {s : State} {m : MethodId} {args : Array Value} {below : List Frame} {meth : Method} {c : Code} {D : va_G} {cy : Nat → ClassId} {ad : Nat → Nat} {L : List Nat} {K len : Nat → Nat} (C0 : zCx p s m c meth args cX1_takeGreatest 5 wsX1_takeGreatest RX1 (some .long) D cy ad L K) (N : Nat) {kh4 : Nat → Int64 → Int32 → ZM → Option (Int64 × ZM)} {r : Int64} {Mr : ZM} (hk4 : ∀ {y0 : Nat} {y1 : Int64} {y3 : Int32} {M : ZM}, kh4 y0 y1 y3 M = some (r, Mr) → ∀ {H : Heap} {locs : List Loc} {ls : Array Slot}, zWd D cy ad L K len M H → va_S (zA ad L s.heap.size) s.heap H locs → lv_has ls 5 [(0, .ref (ad y0)), (1, .long y1), (3, .int y3)] → W p l e (headSpec wsX1_takeGreatest ({ frames := 2, cells := 0, slots := 0, locals := 43 } : Room)).room s m args below meth c H locs 0 0 (MQ below (zQl D cy ad L K len r Mr s.heap.size) args s 0 0 (zA ad L s.heap.size)) (F0 m 4 ls [])) : ∀ (n : Nat) {x0 : Nat} {x1 : Int64} {x3 : Int32} {x4 : Int32} {M : ZM}, f_X1_takeGreatest_22 N K len kh4 n x0 x1 x3 x4 M = some (r, Mr) → ∀ {H : Heap} {locs : List Loc} {ls : Array Slot}, zWd D cy ad L K len M H → va_S (zA ad L s.heap.size) s.heap H locs → lv_has ls 5 [(0, .ref (ad x0)), (1, .long x1), (3, .int x3), (4, .int x4)] → W p l e (headSpec wsX1_takeGreatest ({ frames := 2, cells := 0, slots := 0, locals := 43 } : Room)).room s m args below meth c H locs 0 0 (MQ below (zQl D cy ad L K len r Mr s.heap.size) args s 0 0 (zA ad L s.heap.size)) (F0 m 22 ls []) := by
  obtain ⟨hx, hb, hr, hml, hown, hts, hlocks, hK, hL, hE⟩ := id C0
  have hinX1 : ∀ w ∈ wsX10, w ∈ wsX1_takeGreatest := by decide +kernel
  intro n
  induction n with
  | zero =>
    intro x0 x1 x3 x4 M h
    cases (show (none : Option (Int64 × ZM)) = some (r, Mr) from h)
  | succ n ih =>
    intro x0 x1 x3 x4 M h H locs ls hW hS hl
    rw [f_X1_takeGreatest_22] at h
    refine lv_iload hx hb dX1_takeGreatest_22 (lv_at hl 3 rfl) ?_
    refine lv_aload_n hx hb dX1_takeGreatest_24 rfl (lv_at hl 0 rfl) ?_
    obtain ⟨g1, h⟩ := zg_some h
    refine z_get (own := RX1) (C := RX1) (T := TX1) (N := 5) (ci := 1) hx hb hts hinX1 hown hK hL hW 4 (zK_of g1) rfl (by decide) (by decide) rfl (hts (.fieldLink RX1 26 "ArcLight$Circles" "nodes" "I") (by decide +kernel)) (v := .int (zI M x0 4)) rfl dX1_takeGreatest_25 ?_
    refine lv_icmp_ge (tgt := 63) hx hb dX1_takeGreatest_28 (by decide) (fun c2 => ?_) (fun c2 => ?_)
    · have h := zip c2 h
      refine lv_aload_n hx hb dX1_takeGreatest_63 rfl (lv_at hl 0 rfl) ?_
      refine lv_iload_n hx hb dX1_takeGreatest_64 rfl (lv_at hl 2 rfl) ?_
      obtain ⟨q3, e4, h⟩ := zb_some h
      refine z_calll hS (va_runV (As := [.int x3]) (rest := []) ⟨hx, hb, hml, hown, hts⟩ (m_X1_takenKey l hL N e4 H.size) (cwV 1 hts gX1_takeGreatest_X1_takenKey rfl rfl rfl (by decide +kernel) ⟨Nat.le_of_ble_eq_true rfl, Nat.le_of_ble_eq_true rfl⟩) (z_preV (q := (RX1, TX1, 5)) hK hL hE hW hS (zK_of g1) (by decide) rfl [.int x3]) rfl rfl hl.1 rfl (lv_room (Nat.le_of_ble_eq_true rfl)) dX1_takeGreatest_65 ⟨Nat.le_of_ble_eq_true rfl, Nat.le_of_ble_eq_true rfl⟩) (fun H locs hW hS => ?_)
      refine lv_ldc2 hx hb hown (hts (.constantLong RX1 50 (-9223372036854775808)) (by decide +kernel)) dX1_takeGreatest_68 ?_
      refine z_lc_ne (tgt := 79) hx hb dX1_takeGreatest_71 dX1_takeGreatest_72 (by decide) (fun c5 => ?_) (fun c5 => ?_)
      · have h := zin c5 h
        refine lv_lload_n hx hb dX1_takeGreatest_79 rfl (lv_at hl 1 rfl) ?_
        refine lv_aload_n hx hb dX1_takeGreatest_80 rfl (lv_at hl 0 rfl) ?_
        refine lv_iload_n hx hb dX1_takeGreatest_81 rfl (lv_at hl 2 rfl) ?_
        obtain ⟨q6, e7, h⟩ := zb_some h
        refine z_calll hS (va_runV (As := [.int x3]) (rest := [.long x1]) ⟨hx, hb, hml, hown, hts⟩ (m_X1_takenKey l hL N e7 H.size) (cwV 1 hts gX1_takeGreatest_X1_takenKey rfl rfl rfl (by decide +kernel) ⟨Nat.le_of_ble_eq_true rfl, Nat.le_of_ble_eq_true rfl⟩) (z_preV (q := (RX1, TX1, 5)) hK hL hE hW hS (zK_of g1) (by decide) rfl [.int x3]) rfl rfl hl.1 rfl (lv_room (Nat.le_of_ble_eq_true rfl)) dX1_takeGreatest_82 ⟨Nat.le_of_ble_eq_true rfl, Nat.le_of_ble_eq_true rfl⟩) (fun H locs hW hS => ?_)
        refine lv_ladd hx hb dX1_takeGreatest_85 ?_
        refine lv_lstore_n (lv' := [(1, .long (x1 + q6)), (0, .ref (ad x0)), (3, .int x3), (4, .int x4)]) hx hb dX1_takeGreatest_86 rfl hl (by decide) rfl (fun ls hl => ?_)
        refine lv_iinc (k := 2) (v := (x3 + 1)) (lv' := [(3, .int (x3 + 1)), (1, .long (x1 + q6)), (0, .ref (ad x0)), (4, .int x4)]) hx hb dX1_takeGreatest_87 hl rfl (by rw [show Int32.ofInt 1 = (1 : Int32) from by decide]) (by decide) rfl (fun ls hl => ?_)
        refine lv_goto (tgt := 4) hx hb dX1_takeGreatest_90 (by decide) ?_
        exact hk4 h hW hS (lv_sub hl [2, 1, 0] rfl)
      · have h := zip c5 h
        refine lv_ldc2 hx hb hown (hts (.constantLong RX1 50 (-9223372036854775808)) (by decide +kernel)) dX1_takeGreatest_75 ?_
        exact z_lret hx hb hr hlocks hW hS (congrArg Prod.fst (Option.some.inj h)) (congrArg Prod.snd (Option.some.inj h)) dX1_takeGreatest_78
    · have h := zin c2 h
      refine lv_aload_n hx hb dX1_takeGreatest_31 rfl (lv_at hl 0 rfl) ?_
      obtain ⟨b8, e9, h⟩ := zb_some h
      refine z_get (own := RX1) (C := RX1) (T := TX1) (N := 5) (ci := 1) hx hb hts hinX1 hown hK hL hW 0 (zK_of g1) rfl (by decide) (by decide) rfl (hts (.fieldLink RX1 11 "ArcLight$Circles" "keys" "[[J") (by decide +kernel)) (v := .ref (ad b8)) (zhvR e9 rfl) dX1_takeGreatest_32 ?_
      refine lv_iload hx hb dX1_takeGreatest_35 (lv_at hl 3 rfl) ?_
      obtain ⟨g10, h⟩ := zg_some h
      obtain ⟨b11, e12, h⟩ := zb_some h
      refine z_aaldS hx hb hK hL hW 16 g10 (by decide) e12 dX1_takeGreatest_37 ?_
      refine lv_iload_n hx hb dX1_takeGreatest_38 rfl (lv_at hl 2 rfl) ?_
      obtain ⟨g13, h⟩ := zg_some h
      refine z_lald hx hb hK hL hW g13 dX1_takeGreatest_39 ?_
      refine lv_aload_n hx hb dX1_takeGreatest_40 rfl (lv_at hl 0 rfl) ?_
      refine lv_iload_n hx hb dX1_takeGreatest_41 rfl (lv_at hl 2 rfl) ?_
      obtain ⟨q14, e15, h⟩ := zb_some h
      refine z_calll hS (va_runV (As := [.int x3]) (rest := [.long (zJ M b11 x3.toNatClampNeg)]) ⟨hx, hb, hml, hown, hts⟩ (m_X1_takenKey l hL N e15 H.size) (cwV 1 hts gX1_takeGreatest_X1_takenKey rfl rfl rfl (by decide +kernel) ⟨Nat.le_of_ble_eq_true rfl, Nat.le_of_ble_eq_true rfl⟩) (z_preV (q := (RX1, TX1, 5)) hK hL hE hW hS (zK_of g1) (by decide) rfl [.int x3]) rfl rfl hl.1 rfl (lv_room (Nat.le_of_ble_eq_true rfl)) dX1_takeGreatest_42 ⟨Nat.le_of_ble_eq_true rfl, Nat.le_of_ble_eq_true rfl⟩) (fun H locs hW hS => ?_)
      refine z_lc_le (tgt := 57) hx hb dX1_takeGreatest_45 dX1_takeGreatest_46 (by decide) (fun c16 => ?_) (fun c16 => ?_)
      · have h := zip c16 h
        exact t_X1_takeGreatest_57 C0 N hk4 (fun h _ _ _ hW hS hl => ih h hW hS hl) h hW hS (lv_sub hl [0, 1, 2, 3] rfl)
      · have h := zin c16 h
        refine lv_aload_n hx hb dX1_takeGreatest_49 rfl (lv_at hl 0 rfl) ?_
        obtain ⟨b17, e18, h⟩ := zb_some h
        refine z_get (own := RX1) (C := RX1) (T := TX1) (N := 5) (ci := 1) hx hb hts hinX1 hown hK hL hW 2 (zK_of g1) rfl (by decide) (by decide) rfl (hts (.fieldLink RX1 19 "ArcLight$Circles" "taken" "[I") (by decide +kernel)) (v := .ref (ad b17)) (zhvR e18 rfl) dX1_takeGreatest_50 ?_
        refine lv_iload_n hx hb dX1_takeGreatest_53 rfl (lv_at hl 2 rfl) ?_
        refine lv_iload hx hb dX1_takeGreatest_54 (lv_at hl 3 rfl) ?_
        obtain ⟨g19, h⟩ := zg_some h
        refine z_iast hx hb hK hL hW hS g19 dX1_takeGreatest_56 (fun H locs hW hS => ?_)
        obtain ⟨M20, eM21, h⟩ := zl_some h
        rw [← eM21] at hW
        exact t_X1_takeGreatest_57 C0 N hk4 (fun h _ _ _ hW hS hl => ih h hW hS hl) h hW hS (lv_sub hl [0, 1, 2, 3] rfl)
def f_X1_takeGreatest_4 (N : Nat) (K len : Nat → Nat) : Nat → Nat → Int64 → Int32 → ZM → Option (Int64 × ZM)
  | 0, _, _, _, _ => none
  | n + 1, x0, x1, x3, M =>
    zg (K x0 == 2) (
    (if (zI M x0 4) ≤ x3 then
    some (x1, M)
    else
    (zR M x0 2).bind fun b3 => (
    zg (zok K len b3 11 x3) (
    zl (zsI M b3 x3.toNatClampNeg (0 : Int32)) fun M6 => (
    f_X1_takeGreatest_22 N K len (fun y0 y1 y3 M => f_X1_takeGreatest_4 N K len  n y0 y1 y3 M) N x0 x1 x3 (1 : Int32) M6)))))
set_option maxRecDepth 100000 in
set_option maxHeartbeats 4000000 in
theorem t_X1_takeGreatest_4 {p : Program} {l : Launch} {e : Env} {s : State} {m : MethodId} {args : Array Value} {below : List Frame} {meth : Method} {c : Code} {D : va_G} {cy : Nat → ClassId} {ad : Nat → Nat} {L : List Nat} {K len : Nat → Nat} (C0 : zCx p s m c meth args cX1_takeGreatest 5 wsX1_takeGreatest RX1 (some .long) D cy ad L K) (N : Nat) {r : Int64} {Mr : ZM} : ∀ (n : Nat) {x0 : Nat} {x1 : Int64} {x3 : Int32} {M : ZM}, f_X1_takeGreatest_4 N K len n x0 x1 x3 M = some (r, Mr) → ∀ {H : Heap} {locs : List Loc} {ls : Array Slot}, zWd D cy ad L K len M H → va_S (zA ad L s.heap.size) s.heap H locs → lv_has ls 5 [(0, .ref (ad x0)), (1, .long x1), (3, .int x3)] → W p l e (headSpec wsX1_takeGreatest ({ frames := 2, cells := 0, slots := 0, locals := 43 } : Room)).room s m args below meth c H locs 0 0 (MQ below (zQl D cy ad L K len r Mr s.heap.size) args s 0 0 (zA ad L s.heap.size)) (F0 m 4 ls []) := by
  obtain ⟨hx, hb, hr, hml, hown, hts, hlocks, hK, hL, hE⟩ := id C0
  have hinX1 : ∀ w ∈ wsX10, w ∈ wsX1_takeGreatest := by decide +kernel
  intro n
  induction n with
  | zero =>
    intro x0 x1 x3 M h
    cases (show (none : Option (Int64 × ZM)) = some (r, Mr) from h)
  | succ n ih =>
    intro x0 x1 x3 M h H locs ls hW hS hl
    rw [f_X1_takeGreatest_4] at h
    refine lv_iload_n hx hb dX1_takeGreatest_4 rfl (lv_at hl 2 rfl) ?_
    refine lv_aload_n hx hb dX1_takeGreatest_5 rfl (lv_at hl 0 rfl) ?_
    obtain ⟨g1, h⟩ := zg_some h
    refine z_get (own := RX1) (C := RX1) (T := TX1) (N := 5) (ci := 1) hx hb hts hinX1 hown hK hL hW 4 (zK_of g1) rfl (by decide) (by decide) rfl (hts (.fieldLink RX1 26 "ArcLight$Circles" "nodes" "I") (by decide +kernel)) (v := .int (zI M x0 4)) rfl dX1_takeGreatest_6 ?_
    refine lv_icmp_ge (tgt := 93) hx hb dX1_takeGreatest_9 (by decide) (fun c2 => ?_) (fun c2 => ?_)
    · have h := zip c2 h
      refine lv_lload_n hx hb dX1_takeGreatest_93 rfl (lv_at hl 1 rfl) ?_
      exact z_lret hx hb hr hlocks hW hS (congrArg Prod.fst (Option.some.inj h)) (congrArg Prod.snd (Option.some.inj h)) dX1_takeGreatest_94
    · have h := zin c2 h
      refine lv_aload_n hx hb dX1_takeGreatest_12 rfl (lv_at hl 0 rfl) ?_
      obtain ⟨b3, e4, h⟩ := zb_some h
      refine z_get (own := RX1) (C := RX1) (T := TX1) (N := 5) (ci := 1) hx hb hts hinX1 hown hK hL hW 2 (zK_of g1) rfl (by decide) (by decide) rfl (hts (.fieldLink RX1 19 "ArcLight$Circles" "taken" "[I") (by decide +kernel)) (v := .ref (ad b3)) (zhvR e4 rfl) dX1_takeGreatest_13 ?_
      refine lv_iload_n hx hb dX1_takeGreatest_16 rfl (lv_at hl 2 rfl) ?_
      refine lv_iconst (v := 0) hx hb dX1_takeGreatest_17 (by decide) ?_
      obtain ⟨g5, h⟩ := zg_some h
      refine z_iast hx hb hK hL hW hS g5 dX1_takeGreatest_18 (fun H locs hW hS => ?_)
      obtain ⟨M6, eM7, h⟩ := zl_some h
      rw [← eM7] at hW
      refine lv_iconst (v := 1) hx hb dX1_takeGreatest_19 (by decide) ?_
      refine lv_istore (lv' := [(4, .int (1 : Int32)), (0, .ref (ad x0)), (1, .long x1), (3, .int x3)]) hx hb dX1_takeGreatest_20 hl (by decide) rfl (fun ls hl => ?_)
      exact t_X1_takeGreatest_22 C0 N (fun h _ _ _ hW hS hl => ih h hW hS hl) N h hW hS (lv_sub hl [1, 2, 3, 0] rfl)
def f_X1_takeGreatest_0 (N : Nat) (K len : Nat → Nat) (x0 : Nat) (M : ZM) : Option (Int64 × ZM) :=
f_X1_takeGreatest_4 N K len  N x0 (0 : Int64) (1 : Int32) M
set_option maxRecDepth 100000 in
set_option maxHeartbeats 4000000 in
theorem t_X1_takeGreatest_0 {p : Program} {l : Launch} {e : Env} {s : State} {m : MethodId} {args : Array Value} {below : List Frame} {meth : Method} {c : Code} {D : va_G} {cy : Nat → ClassId} {ad : Nat → Nat} {L : List Nat} {K len : Nat → Nat} (C0 : zCx p s m c meth args cX1_takeGreatest 5 wsX1_takeGreatest RX1 (some .long) D cy ad L K) (N : Nat) {x0 : Nat} {M : ZM} {r : Int64} {Mr : ZM} (h : f_X1_takeGreatest_0 N K len x0 M = some (r, Mr)) {H : Heap} {locs : List Loc} {ls : Array Slot} (hW : zWd D cy ad L K len M H) (hS : va_S (zA ad L s.heap.size) s.heap H locs) (hl : lv_has ls 5 [(0, .ref (ad x0))]) : W p l e (headSpec wsX1_takeGreatest ({ frames := 2, cells := 0, slots := 0, locals := 43 } : Room)).room s m args below meth c H locs 0 0 (MQ below (zQl D cy ad L K len r Mr s.heap.size) args s 0 0 (zA ad L s.heap.size)) (F0 m 0 ls []) := by
  obtain ⟨hx, hb, hr, hml, hown, hts, hlocks, hK, hL, hE⟩ := id C0
  unfold f_X1_takeGreatest_0 at h
  refine lv_lconst (v := 0) hx hb dX1_takeGreatest_0 (by decide) ?_
  refine lv_lstore_n (lv' := [(1, .long (0 : Int64)), (0, .ref (ad x0))]) hx hb dX1_takeGreatest_1 rfl hl (by decide) rfl (fun ls hl => ?_)
  refine lv_iconst (v := 1) hx hb dX1_takeGreatest_2 (by decide) ?_
  refine lv_istore_n (lv' := [(3, .int (1 : Int32)), (1, .long (0 : Int64)), (0, .ref (ad x0))]) hx hb dX1_takeGreatest_3 rfl hl (by decide) rfl (fun ls hl => ?_)
  exact t_X1_takeGreatest_4 C0 N  N h hW hS (lv_sub hl [2, 1, 0] rfl)
def f_X1_takeGreatest (N : Nat) (K len : Nat → Nat) (a0 : Nat) (M : ZM) : Option (Int64 × ZM) := f_X1_takeGreatest_0 N K len a0 M
set_option maxRecDepth 100000 in
set_option maxHeartbeats 4000000 in
theorem m_X1_takeGreatest (l : Launch) {D : va_G} {cy : Nat → ClassId} {ad : Nat → Nat} {L : List Nat} {K len : Nat → Nat} (hL : zSh ad L K) (N : Nat) {a0 : Nat} {M : ZM} {r : Int64} {Mr : ZM} (h : f_X1_takeGreatest N K len a0 M = some (r, Mr)) (sz : Nat) : Met l yX1_takeGreatest wsX1_takeGreatest ({ frames := 2, cells := 0, slots := 0, locals := 43 } : Room) (zPre D cy ad L K len sz [.ref (ad a0)] M) (zQl D cy ad L K len r Mr sz) 0 0 (zA ad L sz) :=
  z_entry (Qf := fun sz => zQl D cy ad L K len r Mr sz) (av := [.ref (ad a0)]) (by decide) rfl rfl hL (Nat.le_of_ble_eq_true rfl) (fun p e s m args below meth c C0 H locs ls hW hS hl => t_X1_takeGreatest_0 C0 N h hW hS (lv_sub hl [0] rfl))
def f_X1_findCircle_14 (N : Nat) (K len : Nat → Nat) (kh2 : Nat → Int32 → Option (Int32)) : Nat → Nat → Int32 → Int32 → Int32 → ZM → Option (Int32)
  | 0, _, _, _, _, _ => none
  | n + 1, x0, x1, x2, x3, M =>
    zg (K x0 == 2) (
    (if (zI M x0 4) ≤ x3 then
    (if x2 = 0 then
    kh2 x0 (x1 + 1)
    else
    some x2)
    else
    (f_X1_takenHead N K len x0 x2 M).bind fun q4 => (
    f_X1_findCircle_14 N K len kh2 n x0 x1 q4 (x3 + 1) M)))
set_option maxRecDepth 100000 in
set_option maxHeartbeats 4000000 in
theorem t_X1_findCircle_14 {p : Program} {l : Launch} {e : Env} {s : State} {m : MethodId} {args : Array Value} {below : List Frame} {meth : Method} {c : Code} {D : va_G} {cy : Nat → ClassId} {ad : Nat → Nat} {L : List Nat} {K len : Nat → Nat} (C0 : zCx p s m c meth args cX1_findCircle 4 wsX1_findCircle RX1 (some .int) D cy ad L K) (N : Nat) {kh2 : Nat → Int32 → Option (Int32)} {M : ZM} {r : Int32} (hk2 : ∀ {y0 : Nat} {y1 : Int32}, kh2 y0 y1 = some r → ∀ {H : Heap} {locs : List Loc} {ls : Array Slot}, zWd D cy ad L K len M H → va_S (zA ad L s.heap.size) s.heap H locs → lv_has ls 4 [(0, .ref (ad y0)), (1, .int y1)] → W p l e (headSpec wsX1_findCircle ({ frames := 1, cells := 0, slots := 0, locals := 21 } : Room)).room s m args below meth c H locs 0 0 (MQ below (zQi D cy ad L K len r M s.heap.size) args s 0 0 (zA ad L s.heap.size)) (F0 m 2 ls [])) : ∀ (n : Nat) {x0 : Nat} {x1 : Int32} {x2 : Int32} {x3 : Int32}, f_X1_findCircle_14 N K len kh2 n x0 x1 x2 x3 M = some r → ∀ {H : Heap} {locs : List Loc} {ls : Array Slot}, zWd D cy ad L K len M H → va_S (zA ad L s.heap.size) s.heap H locs → lv_has ls 4 [(0, .ref (ad x0)), (1, .int x1), (2, .int x2), (3, .int x3)] → W p l e (headSpec wsX1_findCircle ({ frames := 1, cells := 0, slots := 0, locals := 21 } : Room)).room s m args below meth c H locs 0 0 (MQ below (zQi D cy ad L K len r M s.heap.size) args s 0 0 (zA ad L s.heap.size)) (F0 m 14 ls []) := by
  obtain ⟨hx, hb, hr, hml, hown, hts, hlocks, hK, hL, hE⟩ := id C0
  have hinX1 : ∀ w ∈ wsX10, w ∈ wsX1_findCircle := by decide +kernel
  intro n
  induction n with
  | zero =>
    intro x0 x1 x2 x3 h
    cases (show (none : Option (Int32)) = some r from h)
  | succ n ih =>
    intro x0 x1 x2 x3 h H locs ls hW hS hl
    rw [f_X1_findCircle_14] at h
    refine lv_iload_n hx hb dX1_findCircle_14 rfl (lv_at hl 3 rfl) ?_
    refine lv_aload_n hx hb dX1_findCircle_15 rfl (lv_at hl 0 rfl) ?_
    obtain ⟨g1, h⟩ := zg_some h
    refine z_get (own := RX1) (C := RX1) (T := TX1) (N := 5) (ci := 1) hx hb hts hinX1 hown hK hL hW 4 (zK_of g1) rfl (by decide) (by decide) rfl (hts (.fieldLink RX1 26 "ArcLight$Circles" "nodes" "I") (by decide +kernel)) (v := .int (zI M x0 4)) rfl dX1_findCircle_16 ?_
    refine lv_icmp_ge (tgt := 34) hx hb dX1_findCircle_19 (by decide) (fun c2 => ?_) (fun c2 => ?_)
    · have h := zip c2 h
      refine lv_iload_n hx hb dX1_findCircle_34 rfl (lv_at hl 2 rfl) ?_
      refine lv_if_eq (tgt := 40) hx hb dX1_findCircle_35 (by decide) (fun c3 => ?_) (fun c3 => ?_)
      · have h := zip c3 h
        refine lv_iinc (k := 1) (v := (x1 + 1)) (lv' := [(1, .int (x1 + 1)), (0, .ref (ad x0)), (2, .int x2), (3, .int x3)]) hx hb dX1_findCircle_40 hl rfl (by rw [show Int32.ofInt 1 = (1 : Int32) from by decide]) (by decide) rfl (fun ls hl => ?_)
        refine lv_goto (tgt := 2) hx hb dX1_findCircle_43 (by decide) ?_
        exact hk2 h hW hS (lv_sub hl [1, 0] rfl)
      · have h := zin c3 h
        refine lv_iload_n hx hb dX1_findCircle_38 rfl (lv_at hl 2 rfl) ?_
        exact z_iret hx hb hr hlocks hW hS (Option.some.inj h) rfl dX1_findCircle_39
    · have h := zin c2 h
      refine lv_aload_n hx hb dX1_findCircle_22 rfl (lv_at hl 0 rfl) ?_
      refine lv_iload_n hx hb dX1_findCircle_23 rfl (lv_at hl 2 rfl) ?_
      obtain ⟨q4, e5, h⟩ := zb_some h
      refine z_calli hS (va_runV (As := [.int x2]) (rest := []) ⟨hx, hb, hml, hown, hts⟩ (m_X1_takenHead l hL N e5 H.size) (cwV 1 hts gX1_findCircle_X1_takenHead rfl rfl rfl (by decide +kernel) ⟨Nat.le_of_ble_eq_true rfl, Nat.le_of_ble_eq_true rfl⟩) (z_preV (q := (RX1, TX1, 5)) hK hL hE hW hS (zK_of g1) (by decide) rfl [.int x2]) rfl rfl hl.1 rfl (lv_room (Nat.le_of_ble_eq_true rfl)) dX1_findCircle_24 ⟨Nat.le_of_ble_eq_true rfl, Nat.le_of_ble_eq_true rfl⟩) (fun H locs hW hS => ?_)
      refine lv_istore_n (lv' := [(2, .int q4), (0, .ref (ad x0)), (1, .int x1), (3, .int x3)]) hx hb dX1_findCircle_27 rfl hl (by decide) rfl (fun ls hl => ?_)
      refine lv_iinc (k := 3) (v := (x3 + 1)) (lv' := [(3, .int (x3 + 1)), (2, .int q4), (0, .ref (ad x0)), (1, .int x1)]) hx hb dX1_findCircle_28 hl rfl (by rw [show Int32.ofInt 1 = (1 : Int32) from by decide]) (by decide) rfl (fun ls hl => ?_)
      refine lv_goto (tgt := 14) hx hb dX1_findCircle_31 (by decide) ?_
      exact ih h hW hS (lv_sub hl [2, 3, 1, 0] rfl)
def f_X1_findCircle_2 (N : Nat) (K len : Nat → Nat) : Nat → Nat → Int32 → ZM → Option (Int32)
  | 0, _, _, _ => none
  | n + 1, x0, x1, M =>
    zg (K x0 == 2) (
    (if (zI M x0 4) ≤ x1 then
    some (0 : Int32)
    else
    f_X1_findCircle_14 N K len (fun y0 y1 => f_X1_findCircle_2 N K len  n y0 y1 M) N x0 x1 x1 (0 : Int32) M))
set_option maxRecDepth 100000 in
set_option maxHeartbeats 4000000 in
theorem t_X1_findCircle_2 {p : Program} {l : Launch} {e : Env} {s : State} {m : MethodId} {args : Array Value} {below : List Frame} {meth : Method} {c : Code} {D : va_G} {cy : Nat → ClassId} {ad : Nat → Nat} {L : List Nat} {K len : Nat → Nat} (C0 : zCx p s m c meth args cX1_findCircle 4 wsX1_findCircle RX1 (some .int) D cy ad L K) (N : Nat) {M : ZM} {r : Int32} : ∀ (n : Nat) {x0 : Nat} {x1 : Int32}, f_X1_findCircle_2 N K len n x0 x1 M = some r → ∀ {H : Heap} {locs : List Loc} {ls : Array Slot}, zWd D cy ad L K len M H → va_S (zA ad L s.heap.size) s.heap H locs → lv_has ls 4 [(0, .ref (ad x0)), (1, .int x1)] → W p l e (headSpec wsX1_findCircle ({ frames := 1, cells := 0, slots := 0, locals := 21 } : Room)).room s m args below meth c H locs 0 0 (MQ below (zQi D cy ad L K len r M s.heap.size) args s 0 0 (zA ad L s.heap.size)) (F0 m 2 ls []) := by
  obtain ⟨hx, hb, hr, hml, hown, hts, hlocks, hK, hL, hE⟩ := id C0
  have hinX1 : ∀ w ∈ wsX10, w ∈ wsX1_findCircle := by decide +kernel
  intro n
  induction n with
  | zero =>
    intro x0 x1 h
    cases (show (none : Option (Int32)) = some r from h)
  | succ n ih =>
    intro x0 x1 h H locs ls hW hS hl
    rw [f_X1_findCircle_2] at h
    refine lv_iload_n hx hb dX1_findCircle_2 rfl (lv_at hl 1 rfl) ?_
    refine lv_aload_n hx hb dX1_findCircle_3 rfl (lv_at hl 0 rfl) ?_
    obtain ⟨g1, h⟩ := zg_some h
    refine z_get (own := RX1) (C := RX1) (T := TX1) (N := 5) (ci := 1) hx hb hts hinX1 hown hK hL hW 4 (zK_of g1) rfl (by decide) (by decide) rfl (hts (.fieldLink RX1 26 "ArcLight$Circles" "nodes" "I") (by decide +kernel)) (v := .int (zI M x0 4)) rfl dX1_findCircle_4 ?_
    refine lv_icmp_ge (tgt := 46) hx hb dX1_findCircle_7 (by decide) (fun c2 => ?_) (fun c2 => ?_)
    · have h := zip c2 h
      refine lv_iconst (v := 0) hx hb dX1_findCircle_46 (by decide) ?_
      exact z_iret hx hb hr hlocks hW hS (Option.some.inj h) rfl dX1_findCircle_47
    · have h := zin c2 h
      refine lv_iload_n hx hb dX1_findCircle_10 rfl (lv_at hl 1 rfl) ?_
      refine lv_istore_n (lv' := [(2, .int x1), (0, .ref (ad x0)), (1, .int x1)]) hx hb dX1_findCircle_11 rfl hl (by decide) rfl (fun ls hl => ?_)
      refine lv_iconst (v := 0) hx hb dX1_findCircle_12 (by decide) ?_
      refine lv_istore_n (lv' := [(3, .int (0 : Int32)), (2, .int x1), (0, .ref (ad x0)), (1, .int x1)]) hx hb dX1_findCircle_13 rfl hl (by decide) rfl (fun ls hl => ?_)
      exact t_X1_findCircle_14 C0 N (fun h _ _ _ hW hS hl => ih h hW hS hl) N h hW hS (lv_sub hl [2, 3, 1, 0] rfl)
def f_X1_findCircle_0 (N : Nat) (K len : Nat → Nat) (x0 : Nat) (M : ZM) : Option (Int32) :=
f_X1_findCircle_2 N K len  N x0 (1 : Int32) M
set_option maxRecDepth 100000 in
set_option maxHeartbeats 4000000 in
theorem t_X1_findCircle_0 {p : Program} {l : Launch} {e : Env} {s : State} {m : MethodId} {args : Array Value} {below : List Frame} {meth : Method} {c : Code} {D : va_G} {cy : Nat → ClassId} {ad : Nat → Nat} {L : List Nat} {K len : Nat → Nat} (C0 : zCx p s m c meth args cX1_findCircle 4 wsX1_findCircle RX1 (some .int) D cy ad L K) (N : Nat) {x0 : Nat} {M : ZM} {r : Int32} (h : f_X1_findCircle_0 N K len x0 M = some r) {H : Heap} {locs : List Loc} {ls : Array Slot} (hW : zWd D cy ad L K len M H) (hS : va_S (zA ad L s.heap.size) s.heap H locs) (hl : lv_has ls 4 [(0, .ref (ad x0))]) : W p l e (headSpec wsX1_findCircle ({ frames := 1, cells := 0, slots := 0, locals := 21 } : Room)).room s m args below meth c H locs 0 0 (MQ below (zQi D cy ad L K len r M s.heap.size) args s 0 0 (zA ad L s.heap.size)) (F0 m 0 ls []) := by
  obtain ⟨hx, hb, hr, hml, hown, hts, hlocks, hK, hL, hE⟩ := id C0
  unfold f_X1_findCircle_0 at h
  refine lv_iconst (v := 1) hx hb dX1_findCircle_0 (by decide) ?_
  refine lv_istore_n (lv' := [(1, .int (1 : Int32)), (0, .ref (ad x0))]) hx hb dX1_findCircle_1 rfl hl (by decide) rfl (fun ls hl => ?_)
  exact t_X1_findCircle_2 C0 N  N h hW hS (lv_sub hl [1, 0] rfl)
def f_X1_findCircle (N : Nat) (K len : Nat → Nat) (a0 : Nat) (M : ZM) : Option (Int32) := f_X1_findCircle_0 N K len a0 M
set_option maxRecDepth 100000 in
set_option maxHeartbeats 4000000 in
theorem m_X1_findCircle (l : Launch) {D : va_G} {cy : Nat → ClassId} {ad : Nat → Nat} {L : List Nat} {K len : Nat → Nat} (hL : zSh ad L K) (N : Nat) {a0 : Nat} {M : ZM} {r : Int32} (h : f_X1_findCircle N K len a0 M = some r) (sz : Nat) : Met l yX1_findCircle wsX1_findCircle ({ frames := 1, cells := 0, slots := 0, locals := 21 } : Room) (zPre D cy ad L K len sz [.ref (ad a0)] M) (zQi D cy ad L K len r M sz) 0 0 (zA ad L sz) :=
  z_entry (Qf := fun sz => zQi D cy ad L K len r M sz) (av := [.ref (ad a0)]) (by decide) rfl rfl hL (Nat.le_of_ble_eq_true rfl) (fun p e s m args below meth c C0 H locs ls hW hS hl => t_X1_findCircle_0 C0 N h hW hS (lv_sub hl [0] rfl))
def f_X1_groupNodes_119 (N : Nat) (K len : Nat → Nat) (kh91 : Nat → Int32 → Int32 → ZM → Option (Int32 × ZM)) (x0 : Nat) (x3 : Int32) (x4 : Int32) (M : ZM) : Option (Int32 × ZM) :=
kh91 x0 x3 (x4 + 1) M
set_option maxRecDepth 100000 in
set_option maxHeartbeats 4000000 in
theorem t_X1_groupNodes_119 {p : Program} {l : Launch} {e : Env} {s : State} {m : MethodId} {args : Array Value} {below : List Frame} {meth : Method} {c : Code} {D : va_G} {cy : Nat → ClassId} {ad : Nat → Nat} {L : List Nat} {K len : Nat → Nat} (C0 : zCx p s m c meth args cX1_groupNodes 5 wsX1_groupNodes RX1 (some .int) D cy ad L K) (N : Nat) {kh91 : Nat → Int32 → Int32 → ZM → Option (Int32 × ZM)} {x0 : Nat} {x3 : Int32} {x4 : Int32} {M : ZM} {r : Int32} {Mr : ZM} (hk91 : ∀ {y0 : Nat} {y3 : Int32} {y4 : Int32} {M : ZM}, kh91 y0 y3 y4 M = some (r, Mr) → ∀ {H : Heap} {locs : List Loc} {ls : Array Slot}, zWd D cy ad L K len M H → va_S (zA ad L s.heap.size) s.heap H locs → lv_has ls 5 [(0, .ref (ad y0)), (3, .int y3), (4, .int y4)] → W p l e (headSpec wsX1_groupNodes ({ frames := 1, cells := 0, slots := 0, locals := 24 } : Room)).room s m args below meth c H locs 0 0 (MQ below (zQi D cy ad L K len r Mr s.heap.size) args s 0 0 (zA ad L s.heap.size)) (F0 m 91 ls [])) (h : f_X1_groupNodes_119 N K len kh91 x0 x3 x4 M = some (r, Mr)) {H : Heap} {locs : List Loc} {ls : Array Slot} (hW : zWd D cy ad L K len M H) (hS : va_S (zA ad L s.heap.size) s.heap H locs) (hl : lv_has ls 5 [(0, .ref (ad x0)), (3, .int x3), (4, .int x4)]) : W p l e (headSpec wsX1_groupNodes ({ frames := 1, cells := 0, slots := 0, locals := 24 } : Room)).room s m args below meth c H locs 0 0 (MQ below (zQi D cy ad L K len r Mr s.heap.size) args s 0 0 (zA ad L s.heap.size)) (F0 m 119 ls []) := by
  obtain ⟨hx, hb, hr, hml, hown, hts, hlocks, hK, hL, hE⟩ := id C0
  unfold f_X1_groupNodes_119 at h
  refine lv_iinc (k := 2) (v := (x4 + 1)) (lv' := [(4, .int (x4 + 1)), (0, .ref (ad x0)), (3, .int x3)]) hx hb dX1_groupNodes_119 hl rfl (by rw [show Int32.ofInt 1 = (1 : Int32) from by decide]) (by decide) rfl (fun ls hl => ?_)
  refine lv_goto (tgt := 91) hx hb dX1_groupNodes_122 (by decide) ?_
  exact hk91 h hW hS (lv_sub hl [1, 2, 0] rfl)
def f_X1_groupNodes_91 (N : Nat) (K len : Nat → Nat) : Nat → Nat → Int32 → Int32 → ZM → Option (Int32 × ZM)
  | 0, _, _, _, _ => none
  | n + 1, x0, x3, x4, M =>
    zg (K x0 == 2) (
    (if (zI M x0 4) ≤ x4 then
    some ((if (zI M x0 4) < (x3 + (1 : Int32)) then (zI M x0 4) else (x3 + (1 : Int32))), M)
    else
    (zR M x0 3).bind fun b3 => (
    zg (zok K len b3 11 x4) (
    (if (zI M b3 x4.toNatClampNeg) = (-1 : Int32) then
    zl (zsI M b3 x4.toNatClampNeg x3) fun M7 => (
    f_X1_groupNodes_119 N K len (fun y0 y3 y4 M => f_X1_groupNodes_91 N K len  n y0 y3 y4 M) x0 x3 x4 M7)
    else
    f_X1_groupNodes_119 N K len (fun y0 y3 y4 M => f_X1_groupNodes_91 N K len  n y0 y3 y4 M) x0 x3 x4 M)))))
set_option maxRecDepth 100000 in
set_option maxHeartbeats 4000000 in
theorem t_X1_groupNodes_91 {p : Program} {l : Launch} {e : Env} {s : State} {m : MethodId} {args : Array Value} {below : List Frame} {meth : Method} {c : Code} {D : va_G} {cy : Nat → ClassId} {ad : Nat → Nat} {L : List Nat} {K len : Nat → Nat} (C0 : zCx p s m c meth args cX1_groupNodes 5 wsX1_groupNodes RX1 (some .int) D cy ad L K) (N : Nat) {r : Int32} {Mr : ZM} : ∀ (n : Nat) {x0 : Nat} {x3 : Int32} {x4 : Int32} {M : ZM}, f_X1_groupNodes_91 N K len n x0 x3 x4 M = some (r, Mr) → ∀ {H : Heap} {locs : List Loc} {ls : Array Slot}, zWd D cy ad L K len M H → va_S (zA ad L s.heap.size) s.heap H locs → lv_has ls 5 [(0, .ref (ad x0)), (3, .int x3), (4, .int x4)] → W p l e (headSpec wsX1_groupNodes ({ frames := 1, cells := 0, slots := 0, locals := 24 } : Room)).room s m args below meth c H locs 0 0 (MQ below (zQi D cy ad L K len r Mr s.heap.size) args s 0 0 (zA ad L s.heap.size)) (F0 m 91 ls []) := by
  obtain ⟨hx, hb, hr, hml, hown, hts, hlocks, hK, hL, hE⟩ := id C0
  have hinX1 : ∀ w ∈ wsX10, w ∈ wsX1_groupNodes := by decide +kernel
  intro n
  induction n with
  | zero =>
    intro x0 x3 x4 M h
    cases (show (none : Option (Int32 × ZM)) = some (r, Mr) from h)
  | succ n ih =>
    intro x0 x3 x4 M h H locs ls hW hS hl
    rw [f_X1_groupNodes_91] at h
    refine lv_iload hx hb dX1_groupNodes_91 (lv_at hl 2 rfl) ?_
    refine lv_aload_n hx hb dX1_groupNodes_93 rfl (lv_at hl 0 rfl) ?_
    obtain ⟨g1, h⟩ := zg_some h
    refine z_get (own := RX1) (C := RX1) (T := TX1) (N := 5) (ci := 1) hx hb hts hinX1 hown hK hL hW 4 (zK_of g1) rfl (by decide) (by decide) rfl (hts (.fieldLink RX1 26 "ArcLight$Circles" "nodes" "I") (by decide +kernel)) (v := .int (zI M x0 4)) rfl dX1_groupNodes_94 ?_
    refine lv_icmp_ge (tgt := 125) hx hb dX1_groupNodes_97 (by decide) (fun c2 => ?_) (fun c2 => ?_)
    · have h := zip c2 h
      refine lv_iload_n hx hb dX1_groupNodes_125 rfl (lv_at hl 1 rfl) ?_
      refine lv_iconst (v := 1) hx hb dX1_groupNodes_126 (by decide) ?_
      refine lv_iadd hx hb dX1_groupNodes_127 ?_
      refine lv_aload_n hx hb dX1_groupNodes_128 rfl (lv_at hl 0 rfl) ?_
      refine z_get (own := RX1) (C := RX1) (T := TX1) (N := 5) (ci := 1) hx hb hts hinX1 hown hK hL hW 4 (zK_of g1) rfl (by decide) (by decide) rfl (hts (.fieldLink RX1 26 "ArcLight$Circles" "nodes" "I") (by decide +kernel)) (v := .int (zI M x0 4)) rfl dX1_groupNodes_129 ?_
      refine va_mmin (own := RX1) hx hb (hml.trans hl.1.symm) hown (hts (.methodLink RX1 36 Lib.Math.min.name) (by decide +kernel)) (hts (.static Lib.Math.min.name) (by decide +kernel)) (hts (.initialized "java/lang/Math") (by decide +kernel)) (hts (.code Lib.Math.min.name Lib.Math.min.code 2 (some .int)) (by decide +kernel)) (Nat.le_of_ble_eq_true rfl) (Nat.le_of_ble_eq_true rfl) (Nat.zero_le _) (Nat.zero_le _) dX1_groupNodes_132 ?_
      exact z_iret hx hb hr hlocks hW hS (congrArg Prod.fst (Option.some.inj h)) (congrArg Prod.snd (Option.some.inj h)) dX1_groupNodes_135
    · have h := zin c2 h
      refine lv_aload_n hx hb dX1_groupNodes_100 rfl (lv_at hl 0 rfl) ?_
      obtain ⟨b3, e4, h⟩ := zb_some h
      refine z_get (own := RX1) (C := RX1) (T := TX1) (N := 5) (ci := 1) hx hb hts hinX1 hown hK hL hW 3 (zK_of g1) rfl (by decide) (by decide) rfl (hts (.fieldLink RX1 23 "ArcLight$Circles" "groups" "[I") (by decide +kernel)) (v := .ref (ad b3)) (zhvR e4 rfl) dX1_groupNodes_101 ?_
      refine lv_iload hx hb dX1_groupNodes_104 (lv_at hl 2 rfl) ?_
      obtain ⟨g5, h⟩ := zg_some h
      refine z_iald hx hb hK hL hW g5 dX1_groupNodes_106 ?_
      refine lv_iconst (v := -1) hx hb dX1_groupNodes_107 (by decide) ?_
      refine lv_icmp_ne (tgt := 119) hx hb dX1_groupNodes_108 (by decide) (fun c6 => ?_) (fun c6 => ?_)
      · have h := zin c6 h
        exact t_X1_groupNodes_119 C0 N (fun h _ _ _ hW hS hl => ih h hW hS hl) h hW hS (lv_sub hl [0, 1, 2] rfl)
      · have h := zip c6 h
        refine lv_aload_n hx hb dX1_groupNodes_111 rfl (lv_at hl 0 rfl) ?_
        refine z_get (own := RX1) (C := RX1) (T := TX1) (N := 5) (ci := 1) hx hb hts hinX1 hown hK hL hW 3 (zK_of g1) rfl (by decide) (by decide) rfl (hts (.fieldLink RX1 23 "ArcLight$Circles" "groups" "[I") (by decide +kernel)) (v := .ref (ad b3)) (zhvR e4 rfl) dX1_groupNodes_112 ?_
        refine lv_iload hx hb dX1_groupNodes_115 (lv_at hl 2 rfl) ?_
        refine lv_iload_n hx hb dX1_groupNodes_117 rfl (lv_at hl 1 rfl) ?_
        refine z_iast hx hb hK hL hW hS g5 dX1_groupNodes_118 (fun H locs hW hS => ?_)
        obtain ⟨M7, eM8, h⟩ := zl_some h
        rw [← eM8] at hW
        exact t_X1_groupNodes_119 C0 N (fun h _ _ _ hW hS hl => ih h hW hS hl) h hW hS (lv_sub hl [0, 1, 2] rfl)
def f_X1_groupNodes_82 (N : Nat) (K len : Nat → Nat) (kh51 : Nat → Int32 → Int32 → ZM → Option (Int32 × ZM)) (x0 : Nat) (x3 : Int32) (x4 : Int32) (M : ZM) : Option (Int32 × ZM) :=
kh51 x0 x3 (x4 + 1) M
set_option maxRecDepth 100000 in
set_option maxHeartbeats 4000000 in
theorem t_X1_groupNodes_82 {p : Program} {l : Launch} {e : Env} {s : State} {m : MethodId} {args : Array Value} {below : List Frame} {meth : Method} {c : Code} {D : va_G} {cy : Nat → ClassId} {ad : Nat → Nat} {L : List Nat} {K len : Nat → Nat} (C0 : zCx p s m c meth args cX1_groupNodes 5 wsX1_groupNodes RX1 (some .int) D cy ad L K) (N : Nat) {kh51 : Nat → Int32 → Int32 → ZM → Option (Int32 × ZM)} {x0 : Nat} {x3 : Int32} {x4 : Int32} {M : ZM} {r : Int32} {Mr : ZM} (hk51 : ∀ {y0 : Nat} {y3 : Int32} {y4 : Int32} {M : ZM}, kh51 y0 y3 y4 M = some (r, Mr) → ∀ {H : Heap} {locs : List Loc} {ls : Array Slot}, zWd D cy ad L K len M H → va_S (zA ad L s.heap.size) s.heap H locs → lv_has ls 5 [(0, .ref (ad y0)), (3, .int y3), (4, .int y4)] → W p l e (headSpec wsX1_groupNodes ({ frames := 1, cells := 0, slots := 0, locals := 24 } : Room)).room s m args below meth c H locs 0 0 (MQ below (zQi D cy ad L K len r Mr s.heap.size) args s 0 0 (zA ad L s.heap.size)) (F0 m 51 ls [])) (h : f_X1_groupNodes_82 N K len kh51 x0 x3 x4 M = some (r, Mr)) {H : Heap} {locs : List Loc} {ls : Array Slot} (hW : zWd D cy ad L K len M H) (hS : va_S (zA ad L s.heap.size) s.heap H locs) (hl : lv_has ls 5 [(0, .ref (ad x0)), (3, .int x3), (4, .int x4)]) : W p l e (headSpec wsX1_groupNodes ({ frames := 1, cells := 0, slots := 0, locals := 24 } : Room)).room s m args below meth c H locs 0 0 (MQ below (zQi D cy ad L K len r Mr s.heap.size) args s 0 0 (zA ad L s.heap.size)) (F0 m 82 ls []) := by
  obtain ⟨hx, hb, hr, hml, hown, hts, hlocks, hK, hL, hE⟩ := id C0
  unfold f_X1_groupNodes_82 at h
  refine lv_iinc (k := 2) (v := (x4 + 1)) (lv' := [(4, .int (x4 + 1)), (0, .ref (ad x0)), (3, .int x3)]) hx hb dX1_groupNodes_82 hl rfl (by rw [show Int32.ofInt 1 = (1 : Int32) from by decide]) (by decide) rfl (fun ls hl => ?_)
  refine lv_goto (tgt := 51) hx hb dX1_groupNodes_85 (by decide) ?_
  exact hk51 h hW hS (lv_sub hl [1, 2, 0] rfl)
def f_X1_groupNodes_51 (N : Nat) (K len : Nat → Nat) : Nat → Nat → Int32 → Int32 → ZM → Option (Int32 × ZM)
  | 0, _, _, _, _ => none
  | n + 1, x0, x3, x4, M =>
    zg (K x0 == 2) (
    (if (zI M x0 4) ≤ x4 then
    f_X1_groupNodes_91 N K len  N x0 x3 (0 : Int32) M
    else
    (zR M x0 3).bind fun b3 => (
    zg (zok K len b3 11 x4) (
    (if (zI M b3 x4.toNatClampNeg) = (-1 : Int32) then
    f_X1_groupNodes_82 N K len (fun y0 y3 y4 M => f_X1_groupNodes_51 N K len  n y0 y3 y4 M) x0 x3 x4 M
    else
    zl (zsI M b3 x4.toNatClampNeg x3) fun M7 => (
    f_X1_groupNodes_82 N K len (fun y0 y3 y4 M => f_X1_groupNodes_51 N K len  n y0 y3 y4 M) x0 (x3 + 1) x4 M7))))))
set_option maxRecDepth 100000 in
set_option maxHeartbeats 4000000 in
theorem t_X1_groupNodes_51 {p : Program} {l : Launch} {e : Env} {s : State} {m : MethodId} {args : Array Value} {below : List Frame} {meth : Method} {c : Code} {D : va_G} {cy : Nat → ClassId} {ad : Nat → Nat} {L : List Nat} {K len : Nat → Nat} (C0 : zCx p s m c meth args cX1_groupNodes 5 wsX1_groupNodes RX1 (some .int) D cy ad L K) (N : Nat) {r : Int32} {Mr : ZM} : ∀ (n : Nat) {x0 : Nat} {x3 : Int32} {x4 : Int32} {M : ZM}, f_X1_groupNodes_51 N K len n x0 x3 x4 M = some (r, Mr) → ∀ {H : Heap} {locs : List Loc} {ls : Array Slot}, zWd D cy ad L K len M H → va_S (zA ad L s.heap.size) s.heap H locs → lv_has ls 5 [(0, .ref (ad x0)), (3, .int x3), (4, .int x4)] → W p l e (headSpec wsX1_groupNodes ({ frames := 1, cells := 0, slots := 0, locals := 24 } : Room)).room s m args below meth c H locs 0 0 (MQ below (zQi D cy ad L K len r Mr s.heap.size) args s 0 0 (zA ad L s.heap.size)) (F0 m 51 ls []) := by
  obtain ⟨hx, hb, hr, hml, hown, hts, hlocks, hK, hL, hE⟩ := id C0
  have hinX1 : ∀ w ∈ wsX10, w ∈ wsX1_groupNodes := by decide +kernel
  intro n
  induction n with
  | zero =>
    intro x0 x3 x4 M h
    cases (show (none : Option (Int32 × ZM)) = some (r, Mr) from h)
  | succ n ih =>
    intro x0 x3 x4 M h H locs ls hW hS hl
    rw [f_X1_groupNodes_51] at h
    refine lv_iload hx hb dX1_groupNodes_51 (lv_at hl 2 rfl) ?_
    refine lv_aload_n hx hb dX1_groupNodes_53 rfl (lv_at hl 0 rfl) ?_
    obtain ⟨g1, h⟩ := zg_some h
    refine z_get (own := RX1) (C := RX1) (T := TX1) (N := 5) (ci := 1) hx hb hts hinX1 hown hK hL hW 4 (zK_of g1) rfl (by decide) (by decide) rfl (hts (.fieldLink RX1 26 "ArcLight$Circles" "nodes" "I") (by decide +kernel)) (v := .int (zI M x0 4)) rfl dX1_groupNodes_54 ?_
    refine lv_icmp_ge (tgt := 88) hx hb dX1_groupNodes_57 (by decide) (fun c2 => ?_) (fun c2 => ?_)
    · have h := zip c2 h
      refine lv_iconst (v := 0) hx hb dX1_groupNodes_88 (by decide) ?_
      refine lv_istore (lv' := [(4, .int (0 : Int32)), (0, .ref (ad x0)), (3, .int x3)]) hx hb dX1_groupNodes_89 hl (by decide) rfl (fun ls hl => ?_)
      exact t_X1_groupNodes_91 C0 N  N h hW hS (lv_sub hl [1, 2, 0] rfl)
    · have h := zin c2 h
      refine lv_aload_n hx hb dX1_groupNodes_60 rfl (lv_at hl 0 rfl) ?_
      obtain ⟨b3, e4, h⟩ := zb_some h
      refine z_get (own := RX1) (C := RX1) (T := TX1) (N := 5) (ci := 1) hx hb hts hinX1 hown hK hL hW 3 (zK_of g1) rfl (by decide) (by decide) rfl (hts (.fieldLink RX1 23 "ArcLight$Circles" "groups" "[I") (by decide +kernel)) (v := .ref (ad b3)) (zhvR e4 rfl) dX1_groupNodes_61 ?_
      refine lv_iload hx hb dX1_groupNodes_64 (lv_at hl 2 rfl) ?_
      obtain ⟨g5, h⟩ := zg_some h
      refine z_iald hx hb hK hL hW g5 dX1_groupNodes_66 ?_
      refine lv_iconst (v := -1) hx hb dX1_groupNodes_67 (by decide) ?_
      refine lv_icmp_eq (tgt := 82) hx hb dX1_groupNodes_68 (by decide) (fun c6 => ?_) (fun c6 => ?_)
      · have h := zip c6 h
        exact t_X1_groupNodes_82 C0 N (fun h _ _ _ hW hS hl => ih h hW hS hl) h hW hS (lv_sub hl [0, 1, 2] rfl)
      · have h := zin c6 h
        refine lv_aload_n hx hb dX1_groupNodes_71 rfl (lv_at hl 0 rfl) ?_
        refine z_get (own := RX1) (C := RX1) (T := TX1) (N := 5) (ci := 1) hx hb hts hinX1 hown hK hL hW 3 (zK_of g1) rfl (by decide) (by decide) rfl (hts (.fieldLink RX1 23 "ArcLight$Circles" "groups" "[I") (by decide +kernel)) (v := .ref (ad b3)) (zhvR e4 rfl) dX1_groupNodes_72 ?_
        refine lv_iload hx hb dX1_groupNodes_75 (lv_at hl 2 rfl) ?_
        refine lv_iload_n hx hb dX1_groupNodes_77 rfl (lv_at hl 1 rfl) ?_
        refine z_iast hx hb hK hL hW hS g5 dX1_groupNodes_78 (fun H locs hW hS => ?_)
        obtain ⟨M7, eM8, h⟩ := zl_some h
        rw [← eM8] at hW
        refine lv_iinc (k := 1) (v := (x3 + 1)) (lv' := [(3, .int (x3 + 1)), (0, .ref (ad x0)), (4, .int x4)]) hx hb dX1_groupNodes_79 hl rfl (by rw [show Int32.ofInt 1 = (1 : Int32) from by decide]) (by decide) rfl (fun ls hl => ?_)
        exact t_X1_groupNodes_82 C0 N (fun h _ _ _ hW hS hl => ih h hW hS hl) h hW hS (lv_sub hl [1, 0, 2] rfl)
def f_X1_groupNodes_46 (N : Nat) (K len : Nat → Nat) (x0 : Nat) (M : ZM) : Option (Int32 × ZM) :=
f_X1_groupNodes_51 N K len  N x0 (0 : Int32) (0 : Int32) M
set_option maxRecDepth 100000 in
set_option maxHeartbeats 4000000 in
theorem t_X1_groupNodes_46 {p : Program} {l : Launch} {e : Env} {s : State} {m : MethodId} {args : Array Value} {below : List Frame} {meth : Method} {c : Code} {D : va_G} {cy : Nat → ClassId} {ad : Nat → Nat} {L : List Nat} {K len : Nat → Nat} (C0 : zCx p s m c meth args cX1_groupNodes 5 wsX1_groupNodes RX1 (some .int) D cy ad L K) (N : Nat) {x0 : Nat} {M : ZM} {r : Int32} {Mr : ZM} (h : f_X1_groupNodes_46 N K len x0 M = some (r, Mr)) {H : Heap} {locs : List Loc} {ls : Array Slot} (hW : zWd D cy ad L K len M H) (hS : va_S (zA ad L s.heap.size) s.heap H locs) (hl : lv_has ls 5 [(0, .ref (ad x0))]) : W p l e (headSpec wsX1_groupNodes ({ frames := 1, cells := 0, slots := 0, locals := 24 } : Room)).room s m args below meth c H locs 0 0 (MQ below (zQi D cy ad L K len r Mr s.heap.size) args s 0 0 (zA ad L s.heap.size)) (F0 m 46 ls []) := by
  obtain ⟨hx, hb, hr, hml, hown, hts, hlocks, hK, hL, hE⟩ := id C0
  unfold f_X1_groupNodes_46 at h
  refine lv_iconst (v := 0) hx hb dX1_groupNodes_46 (by decide) ?_
  refine lv_istore_n (lv' := [(3, .int (0 : Int32)), (0, .ref (ad x0))]) hx hb dX1_groupNodes_47 rfl hl (by decide) rfl (fun ls hl => ?_)
  refine lv_iconst (v := 0) hx hb dX1_groupNodes_48 (by decide) ?_
  refine lv_istore (lv' := [(4, .int (0 : Int32)), (3, .int (0 : Int32)), (0, .ref (ad x0))]) hx hb dX1_groupNodes_49 hl (by decide) rfl (fun ls hl => ?_)
  exact t_X1_groupNodes_51 C0 N  N h hW hS (lv_sub hl [2, 1, 0] rfl)
def f_X1_groupNodes_12 (N : Nat) (K len : Nat → Nat) : Nat → Nat → Int32 → Int32 → ZM → Option (Int32 × ZM)
  | 0, _, _, _, _ => none
  | n + 1, x0, x2, x3, M =>
    zg (K x0 == 2) (
    (if (zI M x0 4) ≤ x3 then
    f_X1_groupNodes_46 N K len  x0 M
    else
    (f_X6_isPlace N x2).bind fun q3 => (
    (if q3 = 0 then
    f_X1_groupNodes_46 N K len  x0 M
    else
    (zR M x0 3).bind fun b6 => (
    zg (zok K len b6 11 x2) (
    zl (zsI M b6 x2.toNatClampNeg (-1 : Int32)) fun M9 => (
    (f_X1_takenHead N K len x0 x2 M9).bind fun q11 => (
    f_X1_groupNodes_12 N K len  n x0 q11 (x3 + 1) M9))))))))
set_option maxRecDepth 100000 in
set_option maxHeartbeats 4000000 in
theorem t_X1_groupNodes_12 {p : Program} {l : Launch} {e : Env} {s : State} {m : MethodId} {args : Array Value} {below : List Frame} {meth : Method} {c : Code} {D : va_G} {cy : Nat → ClassId} {ad : Nat → Nat} {L : List Nat} {K len : Nat → Nat} (C0 : zCx p s m c meth args cX1_groupNodes 5 wsX1_groupNodes RX1 (some .int) D cy ad L K) (N : Nat) {r : Int32} {Mr : ZM} : ∀ (n : Nat) {x0 : Nat} {x2 : Int32} {x3 : Int32} {M : ZM}, f_X1_groupNodes_12 N K len n x0 x2 x3 M = some (r, Mr) → ∀ {H : Heap} {locs : List Loc} {ls : Array Slot}, zWd D cy ad L K len M H → va_S (zA ad L s.heap.size) s.heap H locs → lv_has ls 5 [(0, .ref (ad x0)), (2, .int x2), (3, .int x3)] → W p l e (headSpec wsX1_groupNodes ({ frames := 1, cells := 0, slots := 0, locals := 24 } : Room)).room s m args below meth c H locs 0 0 (MQ below (zQi D cy ad L K len r Mr s.heap.size) args s 0 0 (zA ad L s.heap.size)) (F0 m 12 ls []) := by
  obtain ⟨hx, hb, hr, hml, hown, hts, hlocks, hK, hL, hE⟩ := id C0
  have hinX1 : ∀ w ∈ wsX10, w ∈ wsX1_groupNodes := by decide +kernel
  intro n
  induction n with
  | zero =>
    intro x0 x2 x3 M h
    cases (show (none : Option (Int32 × ZM)) = some (r, Mr) from h)
  | succ n ih =>
    intro x0 x2 x3 M h H locs ls hW hS hl
    rw [f_X1_groupNodes_12] at h
    refine lv_iload_n hx hb dX1_groupNodes_12 rfl (lv_at hl 2 rfl) ?_
    refine lv_aload_n hx hb dX1_groupNodes_13 rfl (lv_at hl 0 rfl) ?_
    obtain ⟨g1, h⟩ := zg_some h
    refine z_get (own := RX1) (C := RX1) (T := TX1) (N := 5) (ci := 1) hx hb hts hinX1 hown hK hL hW 4 (zK_of g1) rfl (by decide) (by decide) rfl (hts (.fieldLink RX1 26 "ArcLight$Circles" "nodes" "I") (by decide +kernel)) (v := .int (zI M x0 4)) rfl dX1_groupNodes_14 ?_
    refine lv_icmp_ge (tgt := 46) hx hb dX1_groupNodes_17 (by decide) (fun c2 => ?_) (fun c2 => ?_)
    · have h := zip c2 h
      exact t_X1_groupNodes_46 C0 N  h hW hS (lv_sub hl [0] rfl)
    · have h := zin c2 h
      refine lv_iload_n hx hb dX1_groupNodes_20 rfl (lv_at hl 1 rfl) ?_
      obtain ⟨q3, e4, h⟩ := zb_some h
      refine z_calli hS (va_runSN (As := [.int x2]) (rest := []) ⟨hx, hb, hml, hown, hts⟩ (m_X6_isPlace l (M := M) hL N e4 H.size) ⟨va_cnB (host := "ArcLight") 1 hts gX1_groupNodes_X6_isPlace_n67 rfl rfl rfl (hE.1 (.methodLinkNest RX1 67 yX6_isPlace "ArcLight") (by decide +kernel)) (hts (.initialized RX6) (by decide +kernel)) (by decide +kernel) ⟨Nat.le_of_ble_eq_true rfl, Nat.le_of_ble_eq_true rfl⟩, hts (.static yX6_isPlace) (by decide +kernel), trivial⟩ (z_preS hK hE hW hS [.int x2]) rfl rfl hl.1 rfl (lv_room (Nat.le_of_ble_eq_true rfl)) dX1_groupNodes_21 ⟨Nat.le_of_ble_eq_true rfl, Nat.le_of_ble_eq_true rfl⟩) (fun H locs hW hS => ?_)
      refine lv_if_eq (tgt := 46) hx hb dX1_groupNodes_24 (by decide) (fun c5 => ?_) (fun c5 => ?_)
      · have h := zip c5 h
        exact t_X1_groupNodes_46 C0 N  h hW hS (lv_sub hl [0] rfl)
      · have h := zin c5 h
        refine lv_aload_n hx hb dX1_groupNodes_27 rfl (lv_at hl 0 rfl) ?_
        obtain ⟨b6, e7, h⟩ := zb_some h
        refine z_get (own := RX1) (C := RX1) (T := TX1) (N := 5) (ci := 1) hx hb hts hinX1 hown hK hL hW 3 (zK_of g1) rfl (by decide) (by decide) rfl (hts (.fieldLink RX1 23 "ArcLight$Circles" "groups" "[I") (by decide +kernel)) (v := .ref (ad b6)) (zhvR e7 rfl) dX1_groupNodes_28 ?_
        refine lv_iload_n hx hb dX1_groupNodes_31 rfl (lv_at hl 1 rfl) ?_
        refine lv_iconst (v := -1) hx hb dX1_groupNodes_32 (by decide) ?_
        obtain ⟨g8, h⟩ := zg_some h
        refine z_iast hx hb hK hL hW hS g8 dX1_groupNodes_33 (fun H locs hW hS => ?_)
        obtain ⟨M9, eM10, h⟩ := zl_some h
        rw [← eM10] at hW
        refine lv_aload_n hx hb dX1_groupNodes_34 rfl (lv_at hl 0 rfl) ?_
        refine lv_iload_n hx hb dX1_groupNodes_35 rfl (lv_at hl 1 rfl) ?_
        obtain ⟨q11, e12, h⟩ := zb_some h
        refine z_calli hS (va_runV (As := [.int x2]) (rest := []) ⟨hx, hb, hml, hown, hts⟩ (m_X1_takenHead l hL N e12 H.size) (cwV 1 hts gX1_groupNodes_X1_takenHead rfl rfl rfl (by decide +kernel) ⟨Nat.le_of_ble_eq_true rfl, Nat.le_of_ble_eq_true rfl⟩) (z_preV (q := (RX1, TX1, 5)) hK hL hE hW hS (zK_of g1) (by decide) rfl [.int x2]) rfl rfl hl.1 rfl (lv_room (Nat.le_of_ble_eq_true rfl)) dX1_groupNodes_36 ⟨Nat.le_of_ble_eq_true rfl, Nat.le_of_ble_eq_true rfl⟩) (fun H locs hW hS => ?_)
        refine lv_istore_n (lv' := [(2, .int q11), (0, .ref (ad x0)), (3, .int x3)]) hx hb dX1_groupNodes_39 rfl hl (by decide) rfl (fun ls hl => ?_)
        refine lv_iinc (k := 2) (v := (x3 + 1)) (lv' := [(3, .int (x3 + 1)), (2, .int q11), (0, .ref (ad x0))]) hx hb dX1_groupNodes_40 hl rfl (by rw [show Int32.ofInt 1 = (1 : Int32) from by decide]) (by decide) rfl (fun ls hl => ?_)
        refine lv_goto (tgt := 12) hx hb dX1_groupNodes_43 (by decide) ?_
        exact ih h hW hS (lv_sub hl [2, 1, 0] rfl)
def f_X1_groupNodes_0 (N : Nat) (K len : Nat → Nat) (x0 : Nat) (x1 : Int32) (M : ZM) : Option (Int32 × ZM) :=
zg (K x0 == 2) (
(zR M x0 3).bind fun b2 => (
(f_J7_fill_53178 N K len b2 (0 : Int32) M).bind fun M6 => (
f_X1_groupNodes_12 N K len  N x0 x1 (0 : Int32) M6)))
set_option maxRecDepth 100000 in
set_option maxHeartbeats 4000000 in
theorem t_X1_groupNodes_0 {p : Program} {l : Launch} {e : Env} {s : State} {m : MethodId} {args : Array Value} {below : List Frame} {meth : Method} {c : Code} {D : va_G} {cy : Nat → ClassId} {ad : Nat → Nat} {L : List Nat} {K len : Nat → Nat} (C0 : zCx p s m c meth args cX1_groupNodes 5 wsX1_groupNodes RX1 (some .int) D cy ad L K) (N : Nat) {x0 : Nat} {x1 : Int32} {M : ZM} {r : Int32} {Mr : ZM} (h : f_X1_groupNodes_0 N K len x0 x1 M = some (r, Mr)) {H : Heap} {locs : List Loc} {ls : Array Slot} (hW : zWd D cy ad L K len M H) (hS : va_S (zA ad L s.heap.size) s.heap H locs) (hl : lv_has ls 5 [(0, .ref (ad x0)), (1, .int x1)]) : W p l e (headSpec wsX1_groupNodes ({ frames := 1, cells := 0, slots := 0, locals := 24 } : Room)).room s m args below meth c H locs 0 0 (MQ below (zQi D cy ad L K len r Mr s.heap.size) args s 0 0 (zA ad L s.heap.size)) (F0 m 0 ls []) := by
  obtain ⟨hx, hb, hr, hml, hown, hts, hlocks, hK, hL, hE⟩ := id C0
  have hinX1 : ∀ w ∈ wsX10, w ∈ wsX1_groupNodes := by decide +kernel
  unfold f_X1_groupNodes_0 at h
  refine lv_aload_n hx hb dX1_groupNodes_0 rfl (lv_at hl 0 rfl) ?_
  obtain ⟨g1, h⟩ := zg_some h
  obtain ⟨b2, e3, h⟩ := zb_some h
  refine z_get (own := RX1) (C := RX1) (T := TX1) (N := 5) (ci := 1) hx hb hts hinX1 hown hK hL hW 3 (zK_of g1) rfl (by decide) (by decide) rfl (hts (.fieldLink RX1 23 "ArcLight$Circles" "groups" "[I") (by decide +kernel)) (v := .ref (ad b2)) (zhvR e3 rfl) dX1_groupNodes_1 ?_
  refine lv_iconst (v := 0) hx hb dX1_groupNodes_4 (by decide) ?_
  obtain ⟨M6, e5, h⟩ := zb_some h
  refine z_callv hS (va_runS (As := [.ref (ad b2), .int (0 : Int32)]) (rest := []) ⟨hx, hb, hml, hown, hts⟩ (m_J7_fill_53178 l hL N e5 H.size) (va_cwS 2 hts gX1_groupNodes_J7_fill_53178 rfl rfl rfl (by decide +kernel) ⟨Nat.le_of_ble_eq_true rfl, Nat.le_of_ble_eq_true rfl⟩) (z_preS hK hE hW hS [.ref (ad b2), .int (0 : Int32)]) rfl rfl hl.1 rfl (lv_room (Nat.le_of_ble_eq_true rfl)) dX1_groupNodes_5 ⟨Nat.le_of_ble_eq_true rfl, Nat.le_of_ble_eq_true rfl⟩) (fun H locs hW hS => ?_)
  refine lv_iload_n hx hb dX1_groupNodes_8 rfl (lv_at hl 1 rfl) ?_
  refine lv_istore_n (lv' := [(2, .int x1), (0, .ref (ad x0)), (1, .int x1)]) hx hb dX1_groupNodes_9 rfl hl (by decide) rfl (fun ls hl => ?_)
  refine lv_iconst (v := 0) hx hb dX1_groupNodes_10 (by decide) ?_
  refine lv_istore_n (lv' := [(3, .int (0 : Int32)), (2, .int x1), (0, .ref (ad x0)), (1, .int x1)]) hx hb dX1_groupNodes_11 rfl hl (by decide) rfl (fun ls hl => ?_)
  exact t_X1_groupNodes_12 C0 N  N h hW hS (lv_sub hl [2, 1, 0] rfl)
def f_X1_groupNodes (N : Nat) (K len : Nat → Nat) (a0 : Nat) (a1 : Int32) (M : ZM) : Option (Int32 × ZM) := f_X1_groupNodes_0 N K len a0 a1 M
set_option maxRecDepth 100000 in
set_option maxHeartbeats 4000000 in
theorem m_X1_groupNodes (l : Launch) {D : va_G} {cy : Nat → ClassId} {ad : Nat → Nat} {L : List Nat} {K len : Nat → Nat} (hL : zSh ad L K) (N : Nat) {a0 : Nat} {a1 : Int32} {M : ZM} {r : Int32} {Mr : ZM} (h : f_X1_groupNodes N K len a0 a1 M = some (r, Mr)) (sz : Nat) : Met l yX1_groupNodes wsX1_groupNodes ({ frames := 1, cells := 0, slots := 0, locals := 24 } : Room) (zPre D cy ad L K len sz [.ref (ad a0), .int a1] M) (zQi D cy ad L K len r Mr sz) 0 0 (zA ad L sz) :=
  z_entry (Qf := fun sz => zQi D cy ad L K len r Mr sz) (av := [.ref (ad a0), .int a1]) (by decide) rfl rfl hL (Nat.le_of_ble_eq_true rfl) (fun p e s m args below meth c C0 H locs ls hW hS hl => t_X1_groupNodes_0 C0 N h hW hS (lv_sub hl [0, 1] rfl))
def f_X1_offer_0 (N : Nat) (K len : Nat → Nat) (x0 : Nat) (x1 : Int32) (x2 : Int32) (x3 : Int64) (M : ZM) : Option (ZM) :=
(if x1 = x2 then
some M
else
(f_X6_isPlace N x1).bind fun q2 => (
(if q2 = 0 then
some M
else
(f_X6_isPlace N x2).bind fun q5 => (
(if q5 = 0 then
some M
else
zg (K x0 == 2) (
(zR M x0 1).bind fun b9 => (
zg (zok K len b9 16 x1) (
(zR M b9 x1.toNatClampNeg).bind fun b12 => (
zg (zok K len b12 12 x2) (
(if x3 ≤ (zJ M b12 x2.toNatClampNeg) then
some M
else
(zR M b9 x1.toNatClampNeg).bind fun b16 => (
zg (zok K len b16 12 x2) (
zl (zsJ M b16 x2.toNatClampNeg x3) fun M19 => (
some M19))))))))))))))
set_option maxRecDepth 100000 in
set_option maxHeartbeats 4000000 in
theorem t_X1_offer_0 {p : Program} {l : Launch} {e : Env} {s : State} {m : MethodId} {args : Array Value} {below : List Frame} {meth : Method} {c : Code} {D : va_G} {cy : Nat → ClassId} {ad : Nat → Nat} {L : List Nat} {K len : Nat → Nat} (C0 : zCx p s m c meth args cX1_offer 5 wsX1_offer RX1 none D cy ad L K) (N : Nat) {x0 : Nat} {x1 : Int32} {x2 : Int32} {x3 : Int64} {M : ZM} {Mr : ZM} (h : f_X1_offer_0 N K len x0 x1 x2 x3 M = some Mr) {H : Heap} {locs : List Loc} {ls : Array Slot} (hW : zWd D cy ad L K len M H) (hS : va_S (zA ad L s.heap.size) s.heap H locs) (hl : lv_has ls 5 [(0, .ref (ad x0)), (1, .int x1), (2, .int x2), (3, .long x3)]) : W p l e (headSpec wsX1_offer ({ frames := 1, cells := 0, slots := 0, locals := 20 } : Room)).room s m args below meth c H locs 0 0 (MQ below (zQv D cy ad L K len Mr s.heap.size) args s 0 0 (zA ad L s.heap.size)) (F0 m 0 ls []) := by
  obtain ⟨hx, hb, hr, hml, hown, hts, hlocks, hK, hL, hE⟩ := id C0
  have hinX1 : ∀ w ∈ wsX10, w ∈ wsX1_offer := by decide +kernel
  unfold f_X1_offer_0 at h
  refine lv_iload_n hx hb dX1_offer_0 rfl (lv_at hl 1 rfl) ?_
  refine lv_iload_n hx hb dX1_offer_1 rfl (lv_at hl 2 rfl) ?_
  refine lv_icmp_eq (tgt := 41) hx hb dX1_offer_2 (by decide) (fun c1 => ?_) (fun c1 => ?_)
  · have h := zip c1 h
    exact z_vret hx hb hr hlocks hW hS (Option.some.inj h) dX1_offer_41
  · have h := zin c1 h
    refine lv_iload_n hx hb dX1_offer_5 rfl (lv_at hl 1 rfl) ?_
    obtain ⟨q2, e3, h⟩ := zb_some h
    refine z_calli hS (va_runSN (As := [.int x1]) (rest := []) ⟨hx, hb, hml, hown, hts⟩ (m_X6_isPlace l (M := M) hL N e3 H.size) ⟨va_cnB (host := "ArcLight") 1 hts gX1_offer_X6_isPlace_n67 rfl rfl rfl (hE.1 (.methodLinkNest RX1 67 yX6_isPlace "ArcLight") (by decide +kernel)) (hts (.initialized RX6) (by decide +kernel)) (by decide +kernel) ⟨Nat.le_of_ble_eq_true rfl, Nat.le_of_ble_eq_true rfl⟩, hts (.static yX6_isPlace) (by decide +kernel), trivial⟩ (z_preS hK hE hW hS [.int x1]) rfl rfl hl.1 rfl (lv_room (Nat.le_of_ble_eq_true rfl)) dX1_offer_6 ⟨Nat.le_of_ble_eq_true rfl, Nat.le_of_ble_eq_true rfl⟩) (fun H locs hW hS => ?_)
    refine lv_if_eq (tgt := 41) hx hb dX1_offer_9 (by decide) (fun c4 => ?_) (fun c4 => ?_)
    · have h := zip c4 h
      exact z_vret hx hb hr hlocks hW hS (Option.some.inj h) dX1_offer_41
    · have h := zin c4 h
      refine lv_iload_n hx hb dX1_offer_12 rfl (lv_at hl 2 rfl) ?_
      obtain ⟨q5, e6, h⟩ := zb_some h
      refine z_calli hS (va_runSN (As := [.int x2]) (rest := []) ⟨hx, hb, hml, hown, hts⟩ (m_X6_isPlace l (M := M) hL N e6 H.size) ⟨va_cnB (host := "ArcLight") 1 hts gX1_offer_X6_isPlace_n67 rfl rfl rfl (hE.1 (.methodLinkNest RX1 67 yX6_isPlace "ArcLight") (by decide +kernel)) (hts (.initialized RX6) (by decide +kernel)) (by decide +kernel) ⟨Nat.le_of_ble_eq_true rfl, Nat.le_of_ble_eq_true rfl⟩, hts (.static yX6_isPlace) (by decide +kernel), trivial⟩ (z_preS hK hE hW hS [.int x2]) rfl rfl hl.1 rfl (lv_room (Nat.le_of_ble_eq_true rfl)) dX1_offer_13 ⟨Nat.le_of_ble_eq_true rfl, Nat.le_of_ble_eq_true rfl⟩) (fun H locs hW hS => ?_)
      refine lv_if_eq (tgt := 41) hx hb dX1_offer_16 (by decide) (fun c7 => ?_) (fun c7 => ?_)
      · have h := zip c7 h
        exact z_vret hx hb hr hlocks hW hS (Option.some.inj h) dX1_offer_41
      · have h := zin c7 h
        refine lv_lload_n hx hb dX1_offer_19 rfl (lv_at hl 3 rfl) ?_
        refine lv_aload_n hx hb dX1_offer_20 rfl (lv_at hl 0 rfl) ?_
        obtain ⟨g8, h⟩ := zg_some h
        obtain ⟨b9, e10, h⟩ := zb_some h
        refine z_get (own := RX1) (C := RX1) (T := TX1) (N := 5) (ci := 1) hx hb hts hinX1 hown hK hL hW 1 (zK_of g8) rfl (by decide) (by decide) rfl (hts (.fieldLink RX1 16 "ArcLight$Circles" "contracted" "[[J") (by decide +kernel)) (v := .ref (ad b9)) (zhvR e10 rfl) dX1_offer_21 ?_
        refine lv_iload_n hx hb dX1_offer_24 rfl (lv_at hl 1 rfl) ?_
        obtain ⟨g11, h⟩ := zg_some h
        obtain ⟨b12, e13, h⟩ := zb_some h
        refine z_aaldS hx hb hK hL hW 16 g11 (by decide) e13 dX1_offer_25 ?_
        refine lv_iload_n hx hb dX1_offer_26 rfl (lv_at hl 2 rfl) ?_
        obtain ⟨g14, h⟩ := zg_some h
        refine z_lald hx hb hK hL hW g14 dX1_offer_27 ?_
        refine z_lc_le (tgt := 41) hx hb dX1_offer_28 dX1_offer_29 (by decide) (fun c15 => ?_) (fun c15 => ?_)
        · have h := zip c15 h
          exact z_vret hx hb hr hlocks hW hS (Option.some.inj h) dX1_offer_41
        · have h := zin c15 h
          refine lv_aload_n hx hb dX1_offer_32 rfl (lv_at hl 0 rfl) ?_
          refine z_get (own := RX1) (C := RX1) (T := TX1) (N := 5) (ci := 1) hx hb hts hinX1 hown hK hL hW 1 (zK_of g8) rfl (by decide) (by decide) rfl (hts (.fieldLink RX1 16 "ArcLight$Circles" "contracted" "[[J") (by decide +kernel)) (v := .ref (ad b9)) (zhvR e10 rfl) dX1_offer_33 ?_
          refine lv_iload_n hx hb dX1_offer_36 rfl (lv_at hl 1 rfl) ?_
          obtain ⟨b16, e17, h⟩ := zb_some h
          refine z_aaldS hx hb hK hL hW 16 g11 (by decide) e17 dX1_offer_37 ?_
          refine lv_iload_n hx hb dX1_offer_38 rfl (lv_at hl 2 rfl) ?_
          refine lv_lload_n hx hb dX1_offer_39 rfl (lv_at hl 3 rfl) ?_
          obtain ⟨g18, h⟩ := zg_some h
          refine z_last hx hb hK hL hW hS g18 dX1_offer_40 (fun H locs hW hS => ?_)
          obtain ⟨M19, eM20, h⟩ := zl_some h
          rw [← eM20] at hW
          exact z_vret hx hb hr hlocks hW hS (Option.some.inj h) dX1_offer_41
def f_X1_offer (N : Nat) (K len : Nat → Nat) (a0 : Nat) (a1 : Int32) (a2 : Int32) (a3 : Int64) (M : ZM) : Option (ZM) := f_X1_offer_0 N K len a0 a1 a2 a3 M
set_option maxRecDepth 100000 in
set_option maxHeartbeats 4000000 in
theorem m_X1_offer (l : Launch) {D : va_G} {cy : Nat → ClassId} {ad : Nat → Nat} {L : List Nat} {K len : Nat → Nat} (hL : zSh ad L K) (N : Nat) {a0 : Nat} {a1 : Int32} {a2 : Int32} {a3 : Int64} {M : ZM} {Mr : ZM} (h : f_X1_offer N K len a0 a1 a2 a3 M = some Mr) (sz : Nat) : Met l yX1_offer wsX1_offer ({ frames := 1, cells := 0, slots := 0, locals := 20 } : Room) (zPre D cy ad L K len sz [.ref (ad a0), .int a1, .int a2, .long a3] M) (zQv D cy ad L K len Mr sz) 0 0 (zA ad L sz) :=
  z_entry (Qf := fun sz => zQv D cy ad L K len Mr sz) (av := [.ref (ad a0), .int a1, .int a2, .long a3]) (by decide) rfl rfl hL (Nat.le_of_ble_eq_true rfl) (fun p e s m args below meth c C0 H locs ls hW hS hl => t_X1_offer_0 C0 N h hW hS (lv_sub hl [0, 1, 2, 3] rfl))
def f_X1_contract_105 (N : Nat) (K len : Nat → Nat) (kh33 : Nat → Int32 → Int32 → ZM → Option (ZM)) (kh51 : Nat → Int32 → Int32 → Int64 → Int32 → ZM → Option (ZM)) (x0 : Nat) (x2 : Int32) (x3 : Int32) (x4 : Int64) (x6 : Int32) (M : ZM) : Option (ZM) :=
kh51 x0 x2 x3 x4 (x6 + 1) M
set_option maxRecDepth 100000 in
set_option maxHeartbeats 4000000 in
theorem t_X1_contract_105 {p : Program} {l : Launch} {e : Env} {s : State} {m : MethodId} {args : Array Value} {below : List Frame} {meth : Method} {c : Code} {D : va_G} {cy : Nat → ClassId} {ad : Nat → Nat} {L : List Nat} {K len : Nat → Nat} (C0 : zCx p s m c meth args cX1_contract 7 wsX1_contract RX1 none D cy ad L K) (N : Nat) {kh33 : Nat → Int32 → Int32 → ZM → Option (ZM)} {kh51 : Nat → Int32 → Int32 → Int64 → Int32 → ZM → Option (ZM)} {x0 : Nat} {x2 : Int32} {x3 : Int32} {x4 : Int64} {x6 : Int32} {M : ZM} {Mr : ZM} (hk33 : ∀ {y0 : Nat} {y2 : Int32} {y3 : Int32} {M : ZM}, kh33 y0 y2 y3 M = some Mr → ∀ {H : Heap} {locs : List Loc} {ls : Array Slot}, zWd D cy ad L K len M H → va_S (zA ad L s.heap.size) s.heap H locs → lv_has ls 7 [(0, .ref (ad y0)), (2, .int y2), (3, .int y3)] → W p l e (headSpec wsX1_contract ({ frames := 2, cells := 0, slots := 0, locals := 48 } : Room)).room s m args below meth c H locs 0 0 (MQ below (zQv D cy ad L K len Mr s.heap.size) args s 0 0 (zA ad L s.heap.size)) (F0 m 33 ls [])) (hk51 : ∀ {y0 : Nat} {y2 : Int32} {y3 : Int32} {y4 : Int64} {y6 : Int32} {M : ZM}, kh51 y0 y2 y3 y4 y6 M = some Mr → ∀ {H : Heap} {locs : List Loc} {ls : Array Slot}, zWd D cy ad L K len M H → va_S (zA ad L s.heap.size) s.heap H locs → lv_has ls 7 [(0, .ref (ad y0)), (2, .int y2), (3, .int y3), (4, .long y4), (6, .int y6)] → W p l e (headSpec wsX1_contract ({ frames := 2, cells := 0, slots := 0, locals := 48 } : Room)).room s m args below meth c H locs 0 0 (MQ below (zQv D cy ad L K len Mr s.heap.size) args s 0 0 (zA ad L s.heap.size)) (F0 m 51 ls [])) (h : f_X1_contract_105 N K len kh33 kh51 x0 x2 x3 x4 x6 M = some Mr) {H : Heap} {locs : List Loc} {ls : Array Slot} (hW : zWd D cy ad L K len M H) (hS : va_S (zA ad L s.heap.size) s.heap H locs) (hl : lv_has ls 7 [(0, .ref (ad x0)), (2, .int x2), (3, .int x3), (4, .long x4), (6, .int x6)]) : W p l e (headSpec wsX1_contract ({ frames := 2, cells := 0, slots := 0, locals := 48 } : Room)).room s m args below meth c H locs 0 0 (MQ below (zQv D cy ad L K len Mr s.heap.size) args s 0 0 (zA ad L s.heap.size)) (F0 m 105 ls []) := by
  obtain ⟨hx, hb, hr, hml, hown, hts, hlocks, hK, hL, hE⟩ := id C0
  unfold f_X1_contract_105 at h
  refine lv_iinc (k := 4) (v := (x6 + 1)) (lv' := [(6, .int (x6 + 1)), (0, .ref (ad x0)), (2, .int x2), (3, .int x3), (4, .long x4)]) hx hb dX1_contract_105 hl rfl (by rw [show Int32.ofInt 1 = (1 : Int32) from by decide]) (by decide) rfl (fun ls hl => ?_)
  refine lv_goto (tgt := 51) hx hb dX1_contract_108 (by decide) ?_
  exact hk51 h hW hS (lv_sub hl [1, 2, 3, 4, 0] rfl)
def f_X1_contract_51 (N : Nat) (K len : Nat → Nat) (kh33 : Nat → Int32 → Int32 → ZM → Option (ZM)) : Nat → Nat → Int32 → Int32 → Int64 → Int32 → ZM → Option (ZM)
  | 0, _, _, _, _, _, _ => none
  | n + 1, x0, x2, x3, x4, x6, M =>
    zg (K x0 == 2) (
    (if (zI M x0 4) ≤ x6 then
    kh33 x0 x2 (x3 + 1) M
    else
    (zR M x0 0).bind fun b3 => (
    zg (zok K len b3 16 x6) (
    (zR M b3 x6.toNatClampNeg).bind fun b6 => (
    zg (zok K len b6 12 x3) (
    (if (zJ M b6 x3.toNatClampNeg) = (-9223372036854775808 : Int64) then
    f_X1_contract_105 N K len kh33 (fun y0 y2 y3 y4 y6 M => f_X1_contract_51 N K len kh33 n y0 y2 y3 y4 y6 M) x0 x2 x3 x4 x6 M
    else
    (zR M x0 3).bind fun b10 => (
    zg (zok K len b10 11 x6) (
    zg (zok K len b10 11 x3) (
    (zR M b3 x6.toNatClampNeg).bind fun b14 => (
    zg (zok K len b14 12 x3) (
    (f_X1_offer N K len x0 (zI M b10 x6.toNatClampNeg) (zI M b10 x3.toNatClampNeg) ((zJ M b14 x3.toNatClampNeg) - x4) M).bind fun M19 => (
    f_X1_contract_105 N K len kh33 (fun y0 y2 y3 y4 y6 M => f_X1_contract_51 N K len kh33 n y0 y2 y3 y4 y6 M) x0 x2 x3 x4 x6 M19)))))))))))))
set_option maxRecDepth 100000 in
set_option maxHeartbeats 4000000 in
theorem t_X1_contract_51 {p : Program} {l : Launch} {e : Env} {s : State} {m : MethodId} {args : Array Value} {below : List Frame} {meth : Method} {c : Code} {D : va_G} {cy : Nat → ClassId} {ad : Nat → Nat} {L : List Nat} {K len : Nat → Nat} (C0 : zCx p s m c meth args cX1_contract 7 wsX1_contract RX1 none D cy ad L K) (N : Nat) {kh33 : Nat → Int32 → Int32 → ZM → Option (ZM)} {Mr : ZM} (hk33 : ∀ {y0 : Nat} {y2 : Int32} {y3 : Int32} {M : ZM}, kh33 y0 y2 y3 M = some Mr → ∀ {H : Heap} {locs : List Loc} {ls : Array Slot}, zWd D cy ad L K len M H → va_S (zA ad L s.heap.size) s.heap H locs → lv_has ls 7 [(0, .ref (ad y0)), (2, .int y2), (3, .int y3)] → W p l e (headSpec wsX1_contract ({ frames := 2, cells := 0, slots := 0, locals := 48 } : Room)).room s m args below meth c H locs 0 0 (MQ below (zQv D cy ad L K len Mr s.heap.size) args s 0 0 (zA ad L s.heap.size)) (F0 m 33 ls [])) : ∀ (n : Nat) {x0 : Nat} {x2 : Int32} {x3 : Int32} {x4 : Int64} {x6 : Int32} {M : ZM}, f_X1_contract_51 N K len kh33 n x0 x2 x3 x4 x6 M = some Mr → ∀ {H : Heap} {locs : List Loc} {ls : Array Slot}, zWd D cy ad L K len M H → va_S (zA ad L s.heap.size) s.heap H locs → lv_has ls 7 [(0, .ref (ad x0)), (2, .int x2), (3, .int x3), (4, .long x4), (6, .int x6)] → W p l e (headSpec wsX1_contract ({ frames := 2, cells := 0, slots := 0, locals := 48 } : Room)).room s m args below meth c H locs 0 0 (MQ below (zQv D cy ad L K len Mr s.heap.size) args s 0 0 (zA ad L s.heap.size)) (F0 m 51 ls []) := by
  obtain ⟨hx, hb, hr, hml, hown, hts, hlocks, hK, hL, hE⟩ := id C0
  have hinX1 : ∀ w ∈ wsX10, w ∈ wsX1_contract := by decide +kernel
  intro n
  induction n with
  | zero =>
    intro x0 x2 x3 x4 x6 M h
    cases (show (none : Option (ZM)) = some Mr from h)
  | succ n ih =>
    intro x0 x2 x3 x4 x6 M h H locs ls hW hS hl
    rw [f_X1_contract_51] at h
    refine lv_iload hx hb dX1_contract_51 (lv_at hl 4 rfl) ?_
    refine lv_aload_n hx hb dX1_contract_53 rfl (lv_at hl 0 rfl) ?_
    obtain ⟨g1, h⟩ := zg_some h
    refine z_get (own := RX1) (C := RX1) (T := TX1) (N := 5) (ci := 1) hx hb hts hinX1 hown hK hL hW 4 (zK_of g1) rfl (by decide) (by decide) rfl (hts (.fieldLink RX1 26 "ArcLight$Circles" "nodes" "I") (by decide +kernel)) (v := .int (zI M x0 4)) rfl dX1_contract_54 ?_
    refine lv_icmp_ge (tgt := 111) hx hb dX1_contract_57 (by decide) (fun c2 => ?_) (fun c2 => ?_)
    · have h := zip c2 h
      refine lv_iinc (k := 2) (v := (x3 + 1)) (lv' := [(3, .int (x3 + 1)), (0, .ref (ad x0)), (2, .int x2), (4, .long x4), (6, .int x6)]) hx hb dX1_contract_111 hl rfl (by rw [show Int32.ofInt 1 = (1 : Int32) from by decide]) (by decide) rfl (fun ls hl => ?_)
      refine lv_goto (tgt := 33) hx hb dX1_contract_114 (by decide) ?_
      exact hk33 h hW hS (lv_sub hl [1, 2, 0] rfl)
    · have h := zin c2 h
      refine lv_aload_n hx hb dX1_contract_60 rfl (lv_at hl 0 rfl) ?_
      obtain ⟨b3, e4, h⟩ := zb_some h
      refine z_get (own := RX1) (C := RX1) (T := TX1) (N := 5) (ci := 1) hx hb hts hinX1 hown hK hL hW 0 (zK_of g1) rfl (by decide) (by decide) rfl (hts (.fieldLink RX1 11 "ArcLight$Circles" "keys" "[[J") (by decide +kernel)) (v := .ref (ad b3)) (zhvR e4 rfl) dX1_contract_61 ?_
      refine lv_iload hx hb dX1_contract_64 (lv_at hl 4 rfl) ?_
      obtain ⟨g5, h⟩ := zg_some h
      obtain ⟨b6, e7, h⟩ := zb_some h
      refine z_aaldS hx hb hK hL hW 16 g5 (by decide) e7 dX1_contract_66 ?_
      refine lv_iload_n hx hb dX1_contract_67 rfl (lv_at hl 2 rfl) ?_
      obtain ⟨g8, h⟩ := zg_some h
      refine z_lald hx hb hK hL hW g8 dX1_contract_68 ?_
      refine lv_ldc2 hx hb hown (hts (.constantLong RX1 50 (-9223372036854775808)) (by decide +kernel)) dX1_contract_69 ?_
      refine z_lc_eq (tgt := 105) hx hb dX1_contract_72 dX1_contract_73 (by decide) (fun c9 => ?_) (fun c9 => ?_)
      · have h := zip c9 h
        exact t_X1_contract_105 C0 N hk33 (fun h _ _ _ hW hS hl => ih h hW hS hl) h hW hS (lv_sub hl [0, 1, 2, 3, 4] rfl)
      · have h := zin c9 h
        refine lv_aload_n hx hb dX1_contract_76 rfl (lv_at hl 0 rfl) ?_
        refine lv_aload_n hx hb dX1_contract_77 rfl (lv_at hl 0 rfl) ?_
        obtain ⟨b10, e11, h⟩ := zb_some h
        refine z_get (own := RX1) (C := RX1) (T := TX1) (N := 5) (ci := 1) hx hb hts hinX1 hown hK hL hW 3 (zK_of g1) rfl (by decide) (by decide) rfl (hts (.fieldLink RX1 23 "ArcLight$Circles" "groups" "[I") (by decide +kernel)) (v := .ref (ad b10)) (zhvR e11 rfl) dX1_contract_78 ?_
        refine lv_iload hx hb dX1_contract_81 (lv_at hl 4 rfl) ?_
        obtain ⟨g12, h⟩ := zg_some h
        refine z_iald hx hb hK hL hW g12 dX1_contract_83 ?_
        refine lv_aload_n hx hb dX1_contract_84 rfl (lv_at hl 0 rfl) ?_
        refine z_get (own := RX1) (C := RX1) (T := TX1) (N := 5) (ci := 1) hx hb hts hinX1 hown hK hL hW 3 (zK_of g1) rfl (by decide) (by decide) rfl (hts (.fieldLink RX1 23 "ArcLight$Circles" "groups" "[I") (by decide +kernel)) (v := .ref (ad b10)) (zhvR e11 rfl) dX1_contract_85 ?_
        refine lv_iload_n hx hb dX1_contract_88 rfl (lv_at hl 2 rfl) ?_
        obtain ⟨g13, h⟩ := zg_some h
        refine z_iald hx hb hK hL hW g13 dX1_contract_89 ?_
        refine lv_aload_n hx hb dX1_contract_90 rfl (lv_at hl 0 rfl) ?_
        refine z_get (own := RX1) (C := RX1) (T := TX1) (N := 5) (ci := 1) hx hb hts hinX1 hown hK hL hW 0 (zK_of g1) rfl (by decide) (by decide) rfl (hts (.fieldLink RX1 11 "ArcLight$Circles" "keys" "[[J") (by decide +kernel)) (v := .ref (ad b3)) (zhvR e4 rfl) dX1_contract_91 ?_
        refine lv_iload hx hb dX1_contract_94 (lv_at hl 4 rfl) ?_
        obtain ⟨b14, e15, h⟩ := zb_some h
        refine z_aaldS hx hb hK hL hW 16 g5 (by decide) e15 dX1_contract_96 ?_
        refine lv_iload_n hx hb dX1_contract_97 rfl (lv_at hl 2 rfl) ?_
        obtain ⟨g16, h⟩ := zg_some h
        refine z_lald hx hb hK hL hW g16 dX1_contract_98 ?_
        refine lv_lload hx hb dX1_contract_99 (lv_at hl 3 rfl) ?_
        refine lv_lsub hx hb dX1_contract_101 ?_
        obtain ⟨M19, e18, h⟩ := zb_some h
        refine z_callv hS (va_runV (As := [.int (zI M b10 x6.toNatClampNeg), .int (zI M b10 x3.toNatClampNeg), .long ((zJ M b14 x3.toNatClampNeg) - x4)]) (rest := []) ⟨hx, hb, hml, hown, hts⟩ (m_X1_offer l hL N e18 H.size) (cwV 3 hts gX1_contract_X1_offer rfl rfl rfl (by decide +kernel) ⟨Nat.le_of_ble_eq_true rfl, Nat.le_of_ble_eq_true rfl⟩) (z_preV (q := (RX1, TX1, 5)) hK hL hE hW hS (zK_of g1) (by decide) rfl [.int (zI M b10 x6.toNatClampNeg), .int (zI M b10 x3.toNatClampNeg), .long ((zJ M b14 x3.toNatClampNeg) - x4)]) rfl rfl hl.1 rfl (lv_room (Nat.le_of_ble_eq_true rfl)) dX1_contract_102 ⟨Nat.le_of_ble_eq_true rfl, Nat.le_of_ble_eq_true rfl⟩) (fun H locs hW hS => ?_)
        exact t_X1_contract_105 C0 N hk33 (fun h _ _ _ hW hS hl => ih h hW hS hl) h hW hS (lv_sub hl [0, 1, 2, 3, 4] rfl)
def f_X1_contract_33 (N : Nat) (K len : Nat → Nat) : Nat → Nat → Int32 → Int32 → ZM → Option (ZM)
  | 0, _, _, _, _ => none
  | n + 1, x0, x2, x3, M =>
    zg (K x0 == 2) (
    (if (zI M x0 4) ≤ x3 then
    (zR M x0 0).bind fun b3 => (
    (zR M x0 1).bind fun b5 => (
    zl (zsR M x0 0 (some b5)) fun M7 => (
    zl (zsR M7 x0 1 (some b3)) fun M9 => (
    zl (zsI M9 x0 4 x2) fun M11 => (
    some M11)))))
    else
    (f_X1_takenKey N K len x0 x3 M).bind fun q13 => (
    f_X1_contract_51 N K len (fun y0 y2 y3 M => f_X1_contract_33 N K len  n y0 y2 y3 M) N x0 x2 x3 q13 (0 : Int32) M)))
set_option maxRecDepth 100000 in
set_option maxHeartbeats 4000000 in
theorem t_X1_contract_33 {p : Program} {l : Launch} {e : Env} {s : State} {m : MethodId} {args : Array Value} {below : List Frame} {meth : Method} {c : Code} {D : va_G} {cy : Nat → ClassId} {ad : Nat → Nat} {L : List Nat} {K len : Nat → Nat} (C0 : zCx p s m c meth args cX1_contract 7 wsX1_contract RX1 none D cy ad L K) (N : Nat) {Mr : ZM} : ∀ (n : Nat) {x0 : Nat} {x2 : Int32} {x3 : Int32} {M : ZM}, f_X1_contract_33 N K len n x0 x2 x3 M = some Mr → ∀ {H : Heap} {locs : List Loc} {ls : Array Slot}, zWd D cy ad L K len M H → va_S (zA ad L s.heap.size) s.heap H locs → lv_has ls 7 [(0, .ref (ad x0)), (2, .int x2), (3, .int x3)] → W p l e (headSpec wsX1_contract ({ frames := 2, cells := 0, slots := 0, locals := 48 } : Room)).room s m args below meth c H locs 0 0 (MQ below (zQv D cy ad L K len Mr s.heap.size) args s 0 0 (zA ad L s.heap.size)) (F0 m 33 ls []) := by
  obtain ⟨hx, hb, hr, hml, hown, hts, hlocks, hK, hL, hE⟩ := id C0
  have hinX1 : ∀ w ∈ wsX10, w ∈ wsX1_contract := by decide +kernel
  intro n
  induction n with
  | zero =>
    intro x0 x2 x3 M h
    cases (show (none : Option (ZM)) = some Mr from h)
  | succ n ih =>
    intro x0 x2 x3 M h H locs ls hW hS hl
    rw [f_X1_contract_33] at h
    refine lv_iload_n hx hb dX1_contract_33 rfl (lv_at hl 2 rfl) ?_
    refine lv_aload_n hx hb dX1_contract_34 rfl (lv_at hl 0 rfl) ?_
    obtain ⟨g1, h⟩ := zg_some h
    refine z_get (own := RX1) (C := RX1) (T := TX1) (N := 5) (ci := 1) hx hb hts hinX1 hown hK hL hW 4 (zK_of g1) rfl (by decide) (by decide) rfl (hts (.fieldLink RX1 26 "ArcLight$Circles" "nodes" "I") (by decide +kernel)) (v := .int (zI M x0 4)) rfl dX1_contract_35 ?_
    refine lv_icmp_ge (tgt := 117) hx hb dX1_contract_38 (by decide) (fun c2 => ?_) (fun c2 => ?_)
    · have h := zip c2 h
      refine lv_aload_n hx hb dX1_contract_117 rfl (lv_at hl 0 rfl) ?_
      obtain ⟨b3, e4, h⟩ := zb_some h
      refine z_get (own := RX1) (C := RX1) (T := TX1) (N := 5) (ci := 1) hx hb hts hinX1 hown hK hL hW 0 (zK_of g1) rfl (by decide) (by decide) rfl (hts (.fieldLink RX1 11 "ArcLight$Circles" "keys" "[[J") (by decide +kernel)) (v := .ref (ad b3)) (zhvR e4 rfl) dX1_contract_118 ?_
      refine lv_astore_n (lv' := [(3, .ref (ad b3)), (0, .ref (ad x0)), (2, .int x2)]) hx hb dX1_contract_121 rfl hl (by decide) rfl (fun ls hl => ?_)
      refine lv_aload_n hx hb dX1_contract_122 rfl (lv_at hl 1 rfl) ?_
      refine lv_aload_n hx hb dX1_contract_123 rfl (lv_at hl 1 rfl) ?_
      obtain ⟨b5, e6, h⟩ := zb_some h
      refine z_get (own := RX1) (C := RX1) (T := TX1) (N := 5) (ci := 1) hx hb hts hinX1 hown hK hL hW 1 (zK_of g1) rfl (by decide) (by decide) rfl (hts (.fieldLink RX1 16 "ArcLight$Circles" "contracted" "[[J") (by decide +kernel)) (v := .ref (ad b5)) (zhvR e6 rfl) dX1_contract_124 ?_
      refine z_put (own := RX1) (C := RX1) (T := TX1) (N := 5) (ci := 1) (v := .ref (ad b5)) (M' := zsR M x0 0 (some b5)) hx hb hts hinX1 tyX1 tyX1_ok nmX1 hown hK hL hW hS 0 (zK_of g1) rfl (by decide) (by decide) rfl (hts (.fieldLink RX1 11 "ArcLight$Circles" "keys" "[[J") (by decide +kernel)) rfl (ty := .array (.array (.long))) (by decide +kernel) rfl rfl (Nat.le_of_ble_eq_true rfl) dX1_contract_127 (zM_R (zK_of g1) (by decide) rfl) (fun H locs hW hS => ?_)
      obtain ⟨M7, eM8, h⟩ := zl_some h
      rw [← eM8] at hW
      refine lv_aload_n hx hb dX1_contract_130 rfl (lv_at hl 1 rfl) ?_
      refine lv_aload_n hx hb dX1_contract_131 rfl (lv_at hl 0 rfl) ?_
      refine z_put (own := RX1) (C := RX1) (T := TX1) (N := 5) (ci := 1) (v := .ref (ad b3)) (M' := zsR M7 x0 1 (some b3)) hx hb hts hinX1 tyX1 tyX1_ok nmX1 hown hK hL hW hS 1 (zK_of g1) rfl (by decide) (by decide) rfl (hts (.fieldLink RX1 16 "ArcLight$Circles" "contracted" "[[J") (by decide +kernel)) rfl (ty := .array (.array (.long))) (by decide +kernel) rfl rfl (Nat.le_of_ble_eq_true rfl) dX1_contract_132 (zM_R (zK_of g1) (by decide) rfl) (fun H locs hW hS => ?_)
      obtain ⟨M9, eM10, h⟩ := zl_some h
      rw [← eM10] at hW
      refine lv_aload_n hx hb dX1_contract_135 rfl (lv_at hl 1 rfl) ?_
      refine lv_iload_n hx hb dX1_contract_136 rfl (lv_at hl 2 rfl) ?_
      refine z_put (own := RX1) (C := RX1) (T := TX1) (N := 5) (ci := 1) (v := .int x2) (M' := zsI M9 x0 4 x2) hx hb hts hinX1 tyX1 tyX1_ok nmX1 hown hK hL hW hS 4 (zK_of g1) rfl (by decide) (by decide) rfl (hts (.fieldLink RX1 26 "ArcLight$Circles" "nodes" "I") (by decide +kernel)) rfl (ty := .int) (by decide +kernel) rfl rfl (Nat.le_of_ble_eq_true rfl) dX1_contract_137 (zM_I (zK_of g1) (by decide) rfl) (fun H locs hW hS => ?_)
      obtain ⟨M11, eM12, h⟩ := zl_some h
      rw [← eM12] at hW
      exact z_vret hx hb hr hlocks hW hS (Option.some.inj h) dX1_contract_140
    · have h := zin c2 h
      refine lv_aload_n hx hb dX1_contract_41 rfl (lv_at hl 0 rfl) ?_
      refine lv_iload_n hx hb dX1_contract_42 rfl (lv_at hl 2 rfl) ?_
      obtain ⟨q13, e14, h⟩ := zb_some h
      refine z_calll hS (va_runV (As := [.int x3]) (rest := []) ⟨hx, hb, hml, hown, hts⟩ (m_X1_takenKey l hL N e14 H.size) (cwV 1 hts gX1_contract_X1_takenKey rfl rfl rfl (by decide +kernel) ⟨Nat.le_of_ble_eq_true rfl, Nat.le_of_ble_eq_true rfl⟩) (z_preV (q := (RX1, TX1, 5)) hK hL hE hW hS (zK_of g1) (by decide) rfl [.int x3]) rfl rfl hl.1 rfl (lv_room (Nat.le_of_ble_eq_true rfl)) dX1_contract_43 ⟨Nat.le_of_ble_eq_true rfl, Nat.le_of_ble_eq_true rfl⟩) (fun H locs hW hS => ?_)
      refine lv_lstore (lv' := [(4, .long q13), (0, .ref (ad x0)), (2, .int x2), (3, .int x3)]) hx hb dX1_contract_46 hl (by decide) rfl (fun ls hl => ?_)
      refine lv_iconst (v := 0) hx hb dX1_contract_48 (by decide) ?_
      refine lv_istore (lv' := [(6, .int (0 : Int32)), (4, .long q13), (0, .ref (ad x0)), (2, .int x2), (3, .int x3)]) hx hb dX1_contract_49 hl (by decide) rfl (fun ls hl => ?_)
      exact t_X1_contract_51 C0 N (fun h _ _ _ hW hS hl => ih h hW hS hl) N h hW hS (lv_sub hl [2, 3, 4, 1, 0] rfl)
def f_X1_contract_8 (N : Nat) (K len : Nat → Nat) : Nat → Nat → Int32 → Int32 → ZM → Option (ZM)
  | 0, _, _, _, _ => none
  | n + 1, x0, x2, x3, M =>
    (if x2 ≤ x3 then
    f_X1_contract_33 N K len  N x0 x2 (1 : Int32) M
    else
    zg (K x0 == 2) (
    (zR M x0 1).bind fun b3 => (
    zg (zok K len b3 16 x3) (
    (zR M b3 x3.toNatClampNeg).bind fun b6 => (
    (f_J7_fill_d0a16 N K len b6 (-9223372036854775808 : Int64) M).bind fun M10 => (
    f_X1_contract_8 N K len  n x0 x2 (x3 + 1) M10))))))
set_option maxRecDepth 100000 in
set_option maxHeartbeats 4000000 in
theorem t_X1_contract_8 {p : Program} {l : Launch} {e : Env} {s : State} {m : MethodId} {args : Array Value} {below : List Frame} {meth : Method} {c : Code} {D : va_G} {cy : Nat → ClassId} {ad : Nat → Nat} {L : List Nat} {K len : Nat → Nat} (C0 : zCx p s m c meth args cX1_contract 7 wsX1_contract RX1 none D cy ad L K) (N : Nat) {Mr : ZM} : ∀ (n : Nat) {x0 : Nat} {x2 : Int32} {x3 : Int32} {M : ZM}, f_X1_contract_8 N K len n x0 x2 x3 M = some Mr → ∀ {H : Heap} {locs : List Loc} {ls : Array Slot}, zWd D cy ad L K len M H → va_S (zA ad L s.heap.size) s.heap H locs → lv_has ls 7 [(0, .ref (ad x0)), (2, .int x2), (3, .int x3)] → W p l e (headSpec wsX1_contract ({ frames := 2, cells := 0, slots := 0, locals := 48 } : Room)).room s m args below meth c H locs 0 0 (MQ below (zQv D cy ad L K len Mr s.heap.size) args s 0 0 (zA ad L s.heap.size)) (F0 m 8 ls []) := by
  obtain ⟨hx, hb, hr, hml, hown, hts, hlocks, hK, hL, hE⟩ := id C0
  have hinX1 : ∀ w ∈ wsX10, w ∈ wsX1_contract := by decide +kernel
  intro n
  induction n with
  | zero =>
    intro x0 x2 x3 M h
    cases (show (none : Option (ZM)) = some Mr from h)
  | succ n ih =>
    intro x0 x2 x3 M h H locs ls hW hS hl
    rw [f_X1_contract_8] at h
    refine lv_iload_n hx hb dX1_contract_8 rfl (lv_at hl 2 rfl) ?_
    refine lv_iload_n hx hb dX1_contract_9 rfl (lv_at hl 1 rfl) ?_
    refine lv_icmp_ge (tgt := 31) hx hb dX1_contract_10 (by decide) (fun c1 => ?_) (fun c1 => ?_)
    · have h := zip c1 h
      refine lv_iconst (v := 1) hx hb dX1_contract_31 (by decide) ?_
      refine lv_istore_n (lv' := [(3, .int (1 : Int32)), (0, .ref (ad x0)), (2, .int x2)]) hx hb dX1_contract_32 rfl hl (by decide) rfl (fun ls hl => ?_)
      exact t_X1_contract_33 C0 N  N h hW hS (lv_sub hl [1, 2, 0] rfl)
    · have h := zin c1 h
      refine lv_aload_n hx hb dX1_contract_13 rfl (lv_at hl 0 rfl) ?_
      obtain ⟨g2, h⟩ := zg_some h
      obtain ⟨b3, e4, h⟩ := zb_some h
      refine z_get (own := RX1) (C := RX1) (T := TX1) (N := 5) (ci := 1) hx hb hts hinX1 hown hK hL hW 1 (zK_of g2) rfl (by decide) (by decide) rfl (hts (.fieldLink RX1 16 "ArcLight$Circles" "contracted" "[[J") (by decide +kernel)) (v := .ref (ad b3)) (zhvR e4 rfl) dX1_contract_14 ?_
      refine lv_iload_n hx hb dX1_contract_17 rfl (lv_at hl 2 rfl) ?_
      obtain ⟨g5, h⟩ := zg_some h
      obtain ⟨b6, e7, h⟩ := zb_some h
      refine z_aaldS hx hb hK hL hW 16 g5 (by decide) e7 dX1_contract_18 ?_
      refine lv_ldc2 hx hb hown (hts (.constantLong RX1 50 (-9223372036854775808)) (by decide +kernel)) dX1_contract_19 ?_
      obtain ⟨M10, e9, h⟩ := zb_some h
      refine z_callv hS (va_runS (As := [.ref (ad b6), .long (-9223372036854775808 : Int64)]) (rest := []) ⟨hx, hb, hml, hown, hts⟩ (m_J7_fill_d0a16 l hL N e9 H.size) (va_cwS 2 hts gX1_contract_J7_fill_d0a16 rfl rfl rfl (by decide +kernel) ⟨Nat.le_of_ble_eq_true rfl, Nat.le_of_ble_eq_true rfl⟩) (z_preS hK hE hW hS [.ref (ad b6), .long (-9223372036854775808 : Int64)]) rfl rfl hl.1 rfl (lv_room (Nat.le_of_ble_eq_true rfl)) dX1_contract_22 ⟨Nat.le_of_ble_eq_true rfl, Nat.le_of_ble_eq_true rfl⟩) (fun H locs hW hS => ?_)
      refine lv_iinc (k := 2) (v := (x3 + 1)) (lv' := [(3, .int (x3 + 1)), (0, .ref (ad x0)), (2, .int x2)]) hx hb dX1_contract_25 hl rfl (by rw [show Int32.ofInt 1 = (1 : Int32) from by decide]) (by decide) rfl (fun ls hl => ?_)
      refine lv_goto (tgt := 8) hx hb dX1_contract_28 (by decide) ?_
      exact ih h hW hS (lv_sub hl [1, 2, 0] rfl)
def f_X1_contract_0 (N : Nat) (K len : Nat → Nat) (x0 : Nat) (x1 : Int32) (M : ZM) : Option (ZM) :=
zbp (f_X1_groupNodes N K len x0 x1 M) fun q1 M3 => (
zg (K x0 == 2) (
f_X1_contract_8 N K len  N x0 q1 (0 : Int32) M3))
set_option maxRecDepth 100000 in
set_option maxHeartbeats 4000000 in
theorem t_X1_contract_0 {p : Program} {l : Launch} {e : Env} {s : State} {m : MethodId} {args : Array Value} {below : List Frame} {meth : Method} {c : Code} {D : va_G} {cy : Nat → ClassId} {ad : Nat → Nat} {L : List Nat} {K len : Nat → Nat} (C0 : zCx p s m c meth args cX1_contract 7 wsX1_contract RX1 none D cy ad L K) (N : Nat) {x0 : Nat} {x1 : Int32} {M : ZM} {Mr : ZM} (h : f_X1_contract_0 N K len x0 x1 M = some Mr) {H : Heap} {locs : List Loc} {ls : Array Slot} (hW : zWd D cy ad L K len M H) (hS : va_S (zA ad L s.heap.size) s.heap H locs) (hl : lv_has ls 7 [(0, .ref (ad x0)), (1, .int x1)]) : W p l e (headSpec wsX1_contract ({ frames := 2, cells := 0, slots := 0, locals := 48 } : Room)).room s m args below meth c H locs 0 0 (MQ below (zQv D cy ad L K len Mr s.heap.size) args s 0 0 (zA ad L s.heap.size)) (F0 m 0 ls []) := by
  obtain ⟨hx, hb, hr, hml, hown, hts, hlocks, hK, hL, hE⟩ := id C0
  unfold f_X1_contract_0 at h
  refine lv_aload_n hx hb dX1_contract_0 rfl (lv_at hl 0 rfl) ?_
  refine lv_iload_n hx hb dX1_contract_1 rfl (lv_at hl 1 rfl) ?_
  obtain ⟨q1, M3, e2, h⟩ := zbp_some h
  obtain ⟨g4, h⟩ := zg_some h
  refine z_calli hS (va_runV (As := [.int x1]) (rest := []) ⟨hx, hb, hml, hown, hts⟩ (m_X1_groupNodes l hL N e2 H.size) (cwV 1 hts gX1_contract_X1_groupNodes rfl rfl rfl (by decide +kernel) ⟨Nat.le_of_ble_eq_true rfl, Nat.le_of_ble_eq_true rfl⟩) (z_preV (q := (RX1, TX1, 5)) hK hL hE hW hS (zK_of g4) (by decide) rfl [.int x1]) rfl rfl hl.1 rfl (lv_room (Nat.le_of_ble_eq_true rfl)) dX1_contract_2 ⟨Nat.le_of_ble_eq_true rfl, Nat.le_of_ble_eq_true rfl⟩) (fun H locs hW hS => ?_)
  refine lv_istore_n (lv' := [(2, .int q1), (0, .ref (ad x0)), (1, .int x1)]) hx hb dX1_contract_5 rfl hl (by decide) rfl (fun ls hl => ?_)
  refine lv_iconst (v := 0) hx hb dX1_contract_6 (by decide) ?_
  refine lv_istore_n (lv' := [(3, .int (0 : Int32)), (2, .int q1), (0, .ref (ad x0)), (1, .int x1)]) hx hb dX1_contract_7 rfl hl (by decide) rfl (fun ls hl => ?_)
  exact t_X1_contract_8 C0 N  N h hW hS (lv_sub hl [2, 1, 0] rfl)
def f_X1_contract (N : Nat) (K len : Nat → Nat) (a0 : Nat) (a1 : Int32) (M : ZM) : Option (ZM) := f_X1_contract_0 N K len a0 a1 M
set_option maxRecDepth 100000 in
set_option maxHeartbeats 4000000 in
theorem m_X1_contract (l : Launch) {D : va_G} {cy : Nat → ClassId} {ad : Nat → Nat} {L : List Nat} {K len : Nat → Nat} (hL : zSh ad L K) (N : Nat) {a0 : Nat} {a1 : Int32} {M : ZM} {Mr : ZM} (h : f_X1_contract N K len a0 a1 M = some Mr) (sz : Nat) : Met l yX1_contract wsX1_contract ({ frames := 2, cells := 0, slots := 0, locals := 48 } : Room) (zPre D cy ad L K len sz [.ref (ad a0), .int a1] M) (zQv D cy ad L K len Mr sz) 0 0 (zA ad L sz) :=
  z_entry (Qf := fun sz => zQv D cy ad L K len Mr sz) (av := [.ref (ad a0), .int a1]) (by decide) rfl rfl hL (Nat.le_of_ble_eq_true rfl) (fun p e s m args below meth c C0 H locs ls hW hS hl => t_X1_contract_0 C0 N h hW hS (lv_sub hl [0, 1] rfl))
def f_X1_greatest_66 (N : Nat) (K len : Nat → Nat) : Nat → Nat → Int64 → Int32 → ZM → Option (Int64 × ZM)
  | 0, _, _, _, _ => none
  | n + 1, x0, x2, x4, M =>
    (if (7 : Int32) ≤ x4 then
    some ((-9223372036854775808 : Int64), M)
    else
    zbp (f_X1_takeGreatest N K len x0 M) fun q2 M4 => (
    zg (K x0 == 2) (
    (if q2 = (-9223372036854775808 : Int64) then
    some ((-9223372036854775808 : Int64), M4)
    else
    (f_X1_findCircle N K len x0 M4).bind fun q7 => (
    (if q7 = 0 then
    some ((x2 + q2), M4)
    else
    (f_X1_contract N K len x0 q7 M4).bind fun M12 => (
    f_X1_greatest_66 N K len  n x0 (x2 + q2) (x4 + 1) M12)))))))
set_option maxRecDepth 100000 in
set_option maxHeartbeats 4000000 in
theorem t_X1_greatest_66 {p : Program} {l : Launch} {e : Env} {s : State} {m : MethodId} {args : Array Value} {below : List Frame} {meth : Method} {c : Code} {D : va_G} {cy : Nat → ClassId} {ad : Nat → Nat} {L : List Nat} {K len : Nat → Nat} (C0 : zCx p s m c meth args cX1_greatest 8 wsX1_greatest RX1 (some .long) D cy ad L K) (N : Nat) {r : Int64} {Mr : ZM} : ∀ (n : Nat) {x0 : Nat} {x2 : Int64} {x4 : Int32} {M : ZM}, f_X1_greatest_66 N K len n x0 x2 x4 M = some (r, Mr) → ∀ {H : Heap} {locs : List Loc} {ls : Array Slot}, zWd D cy ad L K len M H → va_S (zA ad L s.heap.size) s.heap H locs → lv_has ls 8 [(0, .ref (ad x0)), (2, .long x2), (4, .int x4)] → W p l e (headSpec wsX1_greatest ({ frames := 3, cells := 0, slots := 0, locals := 74 } : Room)).room s m args below meth c H locs 0 0 (MQ below (zQl D cy ad L K len r Mr s.heap.size) args s 0 0 (zA ad L s.heap.size)) (F0 m 66 ls []) := by
  obtain ⟨hx, hb, hr, hml, hown, hts, hlocks, hK, hL, hE⟩ := id C0
  intro n
  induction n with
  | zero =>
    intro x0 x2 x4 M h
    cases (show (none : Option (Int64 × ZM)) = some (r, Mr) from h)
  | succ n ih =>
    intro x0 x2 x4 M h H locs ls hW hS hl
    rw [f_X1_greatest_66] at h
    refine lv_iload hx hb dX1_greatest_66 (lv_at hl 2 rfl) ?_
    refine lv_bipush (v := 7) hx hb dX1_greatest_68 (by decide) ?_
    refine lv_icmp_ge (tgt := 122) hx hb dX1_greatest_70 (by decide) (fun c1 => ?_) (fun c1 => ?_)
    · have h := zip c1 h
      refine lv_ldc2 hx hb hown (hts (.constantLong RX1 50 (-9223372036854775808)) (by decide +kernel)) dX1_greatest_122 ?_
      exact z_lret hx hb hr hlocks hW hS (congrArg Prod.fst (Option.some.inj h)) (congrArg Prod.snd (Option.some.inj h)) dX1_greatest_125
    · have h := zin c1 h
      refine lv_aload_n hx hb dX1_greatest_73 rfl (lv_at hl 0 rfl) ?_
      obtain ⟨q2, M4, e3, h⟩ := zbp_some h
      obtain ⟨g5, h⟩ := zg_some h
      refine z_calll hS (va_runV (As := []) (rest := []) ⟨hx, hb, hml, hown, hts⟩ (m_X1_takeGreatest l hL N e3 H.size) (cwV 0 hts gX1_greatest_X1_takeGreatest rfl rfl rfl (by decide +kernel) ⟨Nat.le_of_ble_eq_true rfl, Nat.le_of_ble_eq_true rfl⟩) (z_preV (q := (RX1, TX1, 5)) hK hL hE hW hS (zK_of g5) (by decide) rfl []) rfl rfl hl.1 rfl (lv_room (Nat.le_of_ble_eq_true rfl)) dX1_greatest_74 ⟨Nat.le_of_ble_eq_true rfl, Nat.le_of_ble_eq_true rfl⟩) (fun H locs hW hS => ?_)
      refine lv_lstore (lv' := [(5, .long q2), (0, .ref (ad x0)), (2, .long x2), (4, .int x4)]) hx hb dX1_greatest_77 hl (by decide) rfl (fun ls hl => ?_)
      refine lv_lload hx hb dX1_greatest_79 (lv_at hl 0 rfl) ?_
      refine lv_ldc2 hx hb hown (hts (.constantLong RX1 50 (-9223372036854775808)) (by decide +kernel)) dX1_greatest_81 ?_
      refine z_lc_ne (tgt := 92) hx hb dX1_greatest_84 dX1_greatest_85 (by decide) (fun c6 => ?_) (fun c6 => ?_)
      · have h := zin c6 h
        refine lv_lload_n hx hb dX1_greatest_92 rfl (lv_at hl 2 rfl) ?_
        refine lv_lload hx hb dX1_greatest_93 (lv_at hl 0 rfl) ?_
        refine lv_ladd hx hb dX1_greatest_95 ?_
        refine lv_lstore_n (lv' := [(2, .long (x2 + q2)), (5, .long q2), (0, .ref (ad x0)), (4, .int x4)]) hx hb dX1_greatest_96 rfl hl (by decide) rfl (fun ls hl => ?_)
        refine lv_aload_n hx hb dX1_greatest_97 rfl (lv_at hl 2 rfl) ?_
        obtain ⟨q7, e8, h⟩ := zb_some h
        refine z_calli hS (va_runV (As := []) (rest := []) ⟨hx, hb, hml, hown, hts⟩ (m_X1_findCircle l hL N e8 H.size) (cwV 0 hts gX1_greatest_X1_findCircle rfl rfl rfl (by decide +kernel) ⟨Nat.le_of_ble_eq_true rfl, Nat.le_of_ble_eq_true rfl⟩) (z_preV (q := (RX1, TX1, 5)) hK hL hE hW hS (zK_of g5) (by decide) rfl []) rfl rfl hl.1 rfl (lv_room (Nat.le_of_ble_eq_true rfl)) dX1_greatest_98 ⟨Nat.le_of_ble_eq_true rfl, Nat.le_of_ble_eq_true rfl⟩) (fun H locs hW hS => ?_)
        refine lv_istore (lv' := [(7, .int q7), (2, .long (x2 + q2)), (5, .long q2), (0, .ref (ad x0)), (4, .int x4)]) hx hb dX1_greatest_101 hl (by decide) rfl (fun ls hl => ?_)
        refine lv_iload hx hb dX1_greatest_103 (lv_at hl 0 rfl) ?_
        refine lv_if_ne (tgt := 110) hx hb dX1_greatest_105 (by decide) (fun c9 => ?_) (fun c9 => ?_)
        · have h := zin c9 h
          refine lv_aload_n hx hb dX1_greatest_110 rfl (lv_at hl 3 rfl) ?_
          refine lv_iload hx hb dX1_greatest_111 (lv_at hl 0 rfl) ?_
          obtain ⟨M12, e11, h⟩ := zb_some h
          refine z_callv hS (va_runV (As := [.int q7]) (rest := []) ⟨hx, hb, hml, hown, hts⟩ (m_X1_contract l hL N e11 H.size) (cwV 1 hts gX1_greatest_X1_contract rfl rfl rfl (by decide +kernel) ⟨Nat.le_of_ble_eq_true rfl, Nat.le_of_ble_eq_true rfl⟩) (z_preV (q := (RX1, TX1, 5)) hK hL hE hW hS (zK_of g5) (by decide) rfl [.int q7]) rfl rfl hl.1 rfl (lv_room (Nat.le_of_ble_eq_true rfl)) dX1_greatest_113 ⟨Nat.le_of_ble_eq_true rfl, Nat.le_of_ble_eq_true rfl⟩) (fun H locs hW hS => ?_)
          refine lv_iinc (k := 4) (v := (x4 + 1)) (lv' := [(4, .int (x4 + 1)), (7, .int q7), (2, .long (x2 + q2)), (5, .long q2), (0, .ref (ad x0))]) hx hb dX1_greatest_116 hl rfl (by rw [show Int32.ofInt 1 = (1 : Int32) from by decide]) (by decide) rfl (fun ls hl => ?_)
          refine lv_goto (tgt := 66) hx hb dX1_greatest_119 (by decide) ?_
          exact ih h hW hS (lv_sub hl [4, 2, 0] rfl)
        · have h := zip c9 h
          refine lv_lload_n hx hb dX1_greatest_108 rfl (lv_at hl 1 rfl) ?_
          exact z_lret hx hb hr hlocks hW hS (congrArg Prod.fst (Option.some.inj h)) (congrArg Prod.snd (Option.some.inj h)) dX1_greatest_109
      · have h := zip c6 h
        refine lv_ldc2 hx hb hown (hts (.constantLong RX1 50 (-9223372036854775808)) (by decide +kernel)) dX1_greatest_88 ?_
        exact z_lret hx hb hr hlocks hW hS (congrArg Prod.fst (Option.some.inj h)) (congrArg Prod.snd (Option.some.inj h)) dX1_greatest_91
def f_X1_greatest_27 (N : Nat) (K len : Nat → Nat) (kh17 : Nat → Nat → Int32 → ZM → Option (Int64 × ZM)) : Nat → Nat → Nat → Int32 → Int32 → ZM → Option (Int64 × ZM)
  | 0, _, _, _, _, _ => none
  | n + 1, x0, x1, x2, x3, M =>
    zg (K x0 == 2) (
    (if (zI M x0 4) ≤ x3 then
    kh17 x0 x1 (x2 + 1) M
    else
    (zR M x0 0).bind fun b3 => (
    zg (zok K len b3 16 x2) (
    (zR M b3 x2.toNatClampNeg).bind fun b6 => (
    (f_X0_get N K len x1 x2 x3 M).bind fun q8 => (
    zg (K x1 == 1) (
    zg (zok K len b6 12 x3) (
    zl (zsJ M b6 x3.toNatClampNeg q8) fun M12 => (
    f_X1_greatest_27 N K len kh17 n x0 x1 x2 (x3 + 1) M12)))))))))
set_option maxRecDepth 100000 in
set_option maxHeartbeats 4000000 in
theorem t_X1_greatest_27 {p : Program} {l : Launch} {e : Env} {s : State} {m : MethodId} {args : Array Value} {below : List Frame} {meth : Method} {c : Code} {D : va_G} {cy : Nat → ClassId} {ad : Nat → Nat} {L : List Nat} {K len : Nat → Nat} (C0 : zCx p s m c meth args cX1_greatest 8 wsX1_greatest RX1 (some .long) D cy ad L K) (N : Nat) {kh17 : Nat → Nat → Int32 → ZM → Option (Int64 × ZM)} {r : Int64} {Mr : ZM} (hk17 : ∀ {y0 : Nat} {y1 : Nat} {y2 : Int32} {M : ZM}, kh17 y0 y1 y2 M = some (r, Mr) → ∀ {H : Heap} {locs : List Loc} {ls : Array Slot}, zWd D cy ad L K len M H → va_S (zA ad L s.heap.size) s.heap H locs → lv_has ls 8 [(0, .ref (ad y0)), (1, .ref (ad y1)), (2, .int y2)] → W p l e (headSpec wsX1_greatest ({ frames := 3, cells := 0, slots := 0, locals := 74 } : Room)).room s m args below meth c H locs 0 0 (MQ below (zQl D cy ad L K len r Mr s.heap.size) args s 0 0 (zA ad L s.heap.size)) (F0 m 17 ls [])) : ∀ (n : Nat) {x0 : Nat} {x1 : Nat} {x2 : Int32} {x3 : Int32} {M : ZM}, f_X1_greatest_27 N K len kh17 n x0 x1 x2 x3 M = some (r, Mr) → ∀ {H : Heap} {locs : List Loc} {ls : Array Slot}, zWd D cy ad L K len M H → va_S (zA ad L s.heap.size) s.heap H locs → lv_has ls 8 [(0, .ref (ad x0)), (1, .ref (ad x1)), (2, .int x2), (3, .int x3)] → W p l e (headSpec wsX1_greatest ({ frames := 3, cells := 0, slots := 0, locals := 74 } : Room)).room s m args below meth c H locs 0 0 (MQ below (zQl D cy ad L K len r Mr s.heap.size) args s 0 0 (zA ad L s.heap.size)) (F0 m 27 ls []) := by
  obtain ⟨hx, hb, hr, hml, hown, hts, hlocks, hK, hL, hE⟩ := id C0
  have hinX1 : ∀ w ∈ wsX10, w ∈ wsX1_greatest := by decide +kernel
  intro n
  induction n with
  | zero =>
    intro x0 x1 x2 x3 M h
    cases (show (none : Option (Int64 × ZM)) = some (r, Mr) from h)
  | succ n ih =>
    intro x0 x1 x2 x3 M h H locs ls hW hS hl
    rw [f_X1_greatest_27] at h
    refine lv_iload_n hx hb dX1_greatest_27 rfl (lv_at hl 3 rfl) ?_
    refine lv_aload_n hx hb dX1_greatest_28 rfl (lv_at hl 0 rfl) ?_
    obtain ⟨g1, h⟩ := zg_some h
    refine z_get (own := RX1) (C := RX1) (T := TX1) (N := 5) (ci := 1) hx hb hts hinX1 hown hK hL hW 4 (zK_of g1) rfl (by decide) (by decide) rfl (hts (.fieldLink RX1 26 "ArcLight$Circles" "nodes" "I") (by decide +kernel)) (v := .int (zI M x0 4)) rfl dX1_greatest_29 ?_
    refine lv_icmp_ge (tgt := 55) hx hb dX1_greatest_32 (by decide) (fun c2 => ?_) (fun c2 => ?_)
    · have h := zip c2 h
      refine lv_iinc (k := 2) (v := (x2 + 1)) (lv' := [(2, .int (x2 + 1)), (0, .ref (ad x0)), (1, .ref (ad x1)), (3, .int x3)]) hx hb dX1_greatest_55 hl rfl (by rw [show Int32.ofInt 1 = (1 : Int32) from by decide]) (by decide) rfl (fun ls hl => ?_)
      refine lv_goto (tgt := 17) hx hb dX1_greatest_58 (by decide) ?_
      exact hk17 h hW hS (lv_sub hl [1, 2, 0] rfl)
    · have h := zin c2 h
      refine lv_aload_n hx hb dX1_greatest_35 rfl (lv_at hl 0 rfl) ?_
      obtain ⟨b3, e4, h⟩ := zb_some h
      refine z_get (own := RX1) (C := RX1) (T := TX1) (N := 5) (ci := 1) hx hb hts hinX1 hown hK hL hW 0 (zK_of g1) rfl (by decide) (by decide) rfl (hts (.fieldLink RX1 11 "ArcLight$Circles" "keys" "[[J") (by decide +kernel)) (v := .ref (ad b3)) (zhvR e4 rfl) dX1_greatest_36 ?_
      refine lv_iload_n hx hb dX1_greatest_39 rfl (lv_at hl 2 rfl) ?_
      obtain ⟨g5, h⟩ := zg_some h
      obtain ⟨b6, e7, h⟩ := zb_some h
      refine z_aaldS hx hb hK hL hW 16 g5 (by decide) e7 dX1_greatest_40 ?_
      refine lv_iload_n hx hb dX1_greatest_41 rfl (lv_at hl 3 rfl) ?_
      refine lv_aload_n hx hb dX1_greatest_42 rfl (lv_at hl 1 rfl) ?_
      refine lv_iload_n hx hb dX1_greatest_43 rfl (lv_at hl 2 rfl) ?_
      refine lv_iload_n hx hb dX1_greatest_44 rfl (lv_at hl 3 rfl) ?_
      obtain ⟨q8, e9, h⟩ := zb_some h
      obtain ⟨g10, h⟩ := zg_some h
      refine z_calll hS (va_runV (As := [.int x2, .int x3]) (rest := [.int x3, .ref (ad b6)]) ⟨hx, hb, hml, hown, hts⟩ (m_X0_get l hL N e9 H.size) (cwV 2 hts gX1_greatest_X0_get rfl rfl rfl (by decide +kernel) ⟨Nat.le_of_ble_eq_true rfl, Nat.le_of_ble_eq_true rfl⟩) (z_preV (q := (RX0, TX0, 2)) hK hL hE hW hS (zK_of g10) (by decide) rfl [.int x2, .int x3]) rfl rfl hl.1 rfl (lv_room (Nat.le_of_ble_eq_true rfl)) dX1_greatest_45 ⟨Nat.le_of_ble_eq_true rfl, Nat.le_of_ble_eq_true rfl⟩) (fun H locs hW hS => ?_)
      obtain ⟨g11, h⟩ := zg_some h
      refine z_last hx hb hK hL hW hS g11 dX1_greatest_48 (fun H locs hW hS => ?_)
      obtain ⟨M12, eM13, h⟩ := zl_some h
      rw [← eM13] at hW
      refine lv_iinc (k := 3) (v := (x3 + 1)) (lv' := [(3, .int (x3 + 1)), (0, .ref (ad x0)), (1, .ref (ad x1)), (2, .int x2)]) hx hb dX1_greatest_49 hl rfl (by rw [show Int32.ofInt 1 = (1 : Int32) from by decide]) (by decide) rfl (fun ls hl => ?_)
      refine lv_goto (tgt := 27) hx hb dX1_greatest_52 (by decide) ?_
      exact ih h hW hS (lv_sub hl [1, 2, 3, 0] rfl)
def f_X1_greatest_17 (N : Nat) (K len : Nat → Nat) : Nat → Nat → Nat → Int32 → ZM → Option (Int64 × ZM)
  | 0, _, _, _, _ => none
  | n + 1, x0, x1, x2, M =>
    zg (K x0 == 2) (
    (if (zI M x0 4) ≤ x2 then
    f_X1_greatest_66 N K len  N x0 (0 : Int64) (0 : Int32) M
    else
    f_X1_greatest_27 N K len (fun y0 y1 y2 M => f_X1_greatest_17 N K len  n y0 y1 y2 M) N x0 x1 x2 (0 : Int32) M))
set_option maxRecDepth 100000 in
set_option maxHeartbeats 4000000 in
theorem t_X1_greatest_17 {p : Program} {l : Launch} {e : Env} {s : State} {m : MethodId} {args : Array Value} {below : List Frame} {meth : Method} {c : Code} {D : va_G} {cy : Nat → ClassId} {ad : Nat → Nat} {L : List Nat} {K len : Nat → Nat} (C0 : zCx p s m c meth args cX1_greatest 8 wsX1_greatest RX1 (some .long) D cy ad L K) (N : Nat) {r : Int64} {Mr : ZM} : ∀ (n : Nat) {x0 : Nat} {x1 : Nat} {x2 : Int32} {M : ZM}, f_X1_greatest_17 N K len n x0 x1 x2 M = some (r, Mr) → ∀ {H : Heap} {locs : List Loc} {ls : Array Slot}, zWd D cy ad L K len M H → va_S (zA ad L s.heap.size) s.heap H locs → lv_has ls 8 [(0, .ref (ad x0)), (1, .ref (ad x1)), (2, .int x2)] → W p l e (headSpec wsX1_greatest ({ frames := 3, cells := 0, slots := 0, locals := 74 } : Room)).room s m args below meth c H locs 0 0 (MQ below (zQl D cy ad L K len r Mr s.heap.size) args s 0 0 (zA ad L s.heap.size)) (F0 m 17 ls []) := by
  obtain ⟨hx, hb, hr, hml, hown, hts, hlocks, hK, hL, hE⟩ := id C0
  have hinX1 : ∀ w ∈ wsX10, w ∈ wsX1_greatest := by decide +kernel
  intro n
  induction n with
  | zero =>
    intro x0 x1 x2 M h
    cases (show (none : Option (Int64 × ZM)) = some (r, Mr) from h)
  | succ n ih =>
    intro x0 x1 x2 M h H locs ls hW hS hl
    rw [f_X1_greatest_17] at h
    refine lv_iload_n hx hb dX1_greatest_17 rfl (lv_at hl 2 rfl) ?_
    refine lv_aload_n hx hb dX1_greatest_18 rfl (lv_at hl 0 rfl) ?_
    obtain ⟨g1, h⟩ := zg_some h
    refine z_get (own := RX1) (C := RX1) (T := TX1) (N := 5) (ci := 1) hx hb hts hinX1 hown hK hL hW 4 (zK_of g1) rfl (by decide) (by decide) rfl (hts (.fieldLink RX1 26 "ArcLight$Circles" "nodes" "I") (by decide +kernel)) (v := .int (zI M x0 4)) rfl dX1_greatest_19 ?_
    refine lv_icmp_ge (tgt := 61) hx hb dX1_greatest_22 (by decide) (fun c2 => ?_) (fun c2 => ?_)
    · have h := zip c2 h
      refine lv_lconst (v := 0) hx hb dX1_greatest_61 (by decide) ?_
      refine lv_lstore_n (lv' := [(2, .long (0 : Int64)), (0, .ref (ad x0)), (1, .ref (ad x1))]) hx hb dX1_greatest_62 rfl hl (by decide) rfl (fun ls hl => ?_)
      refine lv_iconst (v := 0) hx hb dX1_greatest_63 (by decide) ?_
      refine lv_istore (lv' := [(4, .int (0 : Int32)), (2, .long (0 : Int64)), (0, .ref (ad x0)), (1, .ref (ad x1))]) hx hb dX1_greatest_64 hl (by decide) rfl (fun ls hl => ?_)
      exact t_X1_greatest_66 C0 N  N h hW hS (lv_sub hl [2, 1, 0] rfl)
    · have h := zin c2 h
      refine lv_iconst (v := 0) hx hb dX1_greatest_25 (by decide) ?_
      refine lv_istore_n (lv' := [(3, .int (0 : Int32)), (0, .ref (ad x0)), (1, .ref (ad x1)), (2, .int x2)]) hx hb dX1_greatest_26 rfl hl (by decide) rfl (fun ls hl => ?_)
      exact t_X1_greatest_27 C0 N (fun h _ _ _ hW hS hl => ih h hW hS hl) N h hW hS (lv_sub hl [1, 2, 3, 0] rfl)
def f_X1_greatest_0 (N : Nat) (K len : Nat → Nat) (x0 : Nat) (x1 : Nat) (M : ZM) : Option (Int64 × ZM) :=
(f_X0_size N K len x1 M).bind fun q1 => (
zg (K x1 == 1) (
zg (K x0 == 2) (
zl (zsI M x0 4 (if (7 : Int32) < (q1 + (1 : Int32)) then (7 : Int32) else (q1 + (1 : Int32)))) fun M5 => (
f_X1_greatest_17 N K len  N x0 x1 (0 : Int32) M5))))
set_option maxRecDepth 100000 in
set_option maxHeartbeats 4000000 in
theorem t_X1_greatest_0 {p : Program} {l : Launch} {e : Env} {s : State} {m : MethodId} {args : Array Value} {below : List Frame} {meth : Method} {c : Code} {D : va_G} {cy : Nat → ClassId} {ad : Nat → Nat} {L : List Nat} {K len : Nat → Nat} (C0 : zCx p s m c meth args cX1_greatest 8 wsX1_greatest RX1 (some .long) D cy ad L K) (N : Nat) {x0 : Nat} {x1 : Nat} {M : ZM} {r : Int64} {Mr : ZM} (h : f_X1_greatest_0 N K len x0 x1 M = some (r, Mr)) {H : Heap} {locs : List Loc} {ls : Array Slot} (hW : zWd D cy ad L K len M H) (hS : va_S (zA ad L s.heap.size) s.heap H locs) (hl : lv_has ls 8 [(0, .ref (ad x0)), (1, .ref (ad x1))]) : W p l e (headSpec wsX1_greatest ({ frames := 3, cells := 0, slots := 0, locals := 74 } : Room)).room s m args below meth c H locs 0 0 (MQ below (zQl D cy ad L K len r Mr s.heap.size) args s 0 0 (zA ad L s.heap.size)) (F0 m 0 ls []) := by
  obtain ⟨hx, hb, hr, hml, hown, hts, hlocks, hK, hL, hE⟩ := id C0
  have hinX1 : ∀ w ∈ wsX10, w ∈ wsX1_greatest := by decide +kernel
  unfold f_X1_greatest_0 at h
  refine lv_aload_n hx hb dX1_greatest_0 rfl (lv_at hl 0 rfl) ?_
  refine lv_aload_n hx hb dX1_greatest_1 rfl (lv_at hl 1 rfl) ?_
  obtain ⟨q1, e2, h⟩ := zb_some h
  obtain ⟨g3, h⟩ := zg_some h
  refine z_calli hS (va_runV (As := []) (rest := [.ref (ad x0)]) ⟨hx, hb, hml, hown, hts⟩ (m_X0_size l hL N e2 H.size) (cwV 0 hts gX1_greatest_X0_size rfl rfl rfl (by decide +kernel) ⟨Nat.le_of_ble_eq_true rfl, Nat.le_of_ble_eq_true rfl⟩) (z_preV (q := (RX0, TX0, 2)) hK hL hE hW hS (zK_of g3) (by decide) rfl []) rfl rfl hl.1 rfl (lv_room (Nat.le_of_ble_eq_true rfl)) dX1_greatest_2 ⟨Nat.le_of_ble_eq_true rfl, Nat.le_of_ble_eq_true rfl⟩) (fun H locs hW hS => ?_)
  refine lv_iconst (v := 1) hx hb dX1_greatest_5 (by decide) ?_
  refine lv_iadd hx hb dX1_greatest_6 ?_
  refine lv_bipush (v := 7) hx hb dX1_greatest_7 (by decide) ?_
  refine va_mmin (own := RX1) hx hb (hml.trans hl.1.symm) hown (hts (.methodLink RX1 36 Lib.Math.min.name) (by decide +kernel)) (hts (.static Lib.Math.min.name) (by decide +kernel)) (hts (.initialized "java/lang/Math") (by decide +kernel)) (hts (.code Lib.Math.min.name Lib.Math.min.code 2 (some .int)) (by decide +kernel)) (Nat.le_of_ble_eq_true rfl) (Nat.le_of_ble_eq_true rfl) (Nat.zero_le _) (Nat.zero_le _) dX1_greatest_9 ?_
  obtain ⟨g4, h⟩ := zg_some h
  refine z_put (own := RX1) (C := RX1) (T := TX1) (N := 5) (ci := 1) (v := .int (if (7 : Int32) < (q1 + (1 : Int32)) then (7 : Int32) else (q1 + (1 : Int32)))) (M' := zsI M x0 4 (if (7 : Int32) < (q1 + (1 : Int32)) then (7 : Int32) else (q1 + (1 : Int32)))) hx hb hts hinX1 tyX1 tyX1_ok nmX1 hown hK hL hW hS 4 (zK_of g4) rfl (by decide) (by decide) rfl (hts (.fieldLink RX1 26 "ArcLight$Circles" "nodes" "I") (by decide +kernel)) rfl (ty := .int) (by decide +kernel) rfl rfl (Nat.le_of_ble_eq_true rfl) dX1_greatest_12 (zM_I (zK_of g4) (by decide) rfl) (fun H locs hW hS => ?_)
  obtain ⟨M5, eM6, h⟩ := zl_some h
  rw [← eM6] at hW
  refine lv_iconst (v := 0) hx hb dX1_greatest_15 (by decide) ?_
  refine lv_istore_n (lv' := [(2, .int (0 : Int32)), (0, .ref (ad x0)), (1, .ref (ad x1))]) hx hb dX1_greatest_16 rfl hl (by decide) rfl (fun ls hl => ?_)
  exact t_X1_greatest_17 C0 N  N h hW hS (lv_sub hl [1, 2, 0] rfl)
def f_X1_greatest (N : Nat) (K len : Nat → Nat) (a0 : Nat) (a1 : Nat) (M : ZM) : Option (Int64 × ZM) := f_X1_greatest_0 N K len a0 a1 M
set_option maxRecDepth 100000 in
set_option maxHeartbeats 4000000 in
theorem m_X1_greatest (l : Launch) {D : va_G} {cy : Nat → ClassId} {ad : Nat → Nat} {L : List Nat} {K len : Nat → Nat} (hL : zSh ad L K) (N : Nat) {a0 : Nat} {a1 : Nat} {M : ZM} {r : Int64} {Mr : ZM} (h : f_X1_greatest N K len a0 a1 M = some (r, Mr)) (sz : Nat) : Met l yX1_greatest wsX1_greatest ({ frames := 3, cells := 0, slots := 0, locals := 74 } : Room) (zPre D cy ad L K len sz [.ref (ad a0), .ref (ad a1)] M) (zQl D cy ad L K len r Mr sz) 0 0 (zA ad L sz) :=
  z_entry (Qf := fun sz => zQl D cy ad L K len r Mr sz) (av := [.ref (ad a0), .ref (ad a1)]) (by decide) rfl rfl hL (Nat.le_of_ble_eq_true rfl) (fun p e s m args below meth c C0 H locs ls hW hS hl => t_X1_greatest_0 C0 N h hW hS (lv_sub hl [0, 1] rfl))

/-! Walks laid by program (wip/whole/gen): X7_isBetween, X7_isBeyond, X7_doCross, X7_may, X7_keyOf, X7_walks, X7_finds, X7_sinks, X7_lists, X7_scoreIn, X7_headIn, X7_trees, X7_asksTree, X7_best, X7_bestByTrying, X7_head, X7_crossings, X7_asksRank, X7_ranked, X7_rankedHead -/
def f_X7_isBetween_19 (N : Nat) : Option (Int32) :=
some (0 : Int32)
set_option maxRecDepth 100000 in
set_option maxHeartbeats 4000000 in
theorem t_X7_isBetween_19 {p : Program} {l : Launch} {e : Env} {s : State} {m : MethodId} {args : Array Value} {below : List Frame} {meth : Method} {c : Code} {D : va_G} {cy : Nat → ClassId} {ad : Nat → Nat} {L : List Nat} {K len : Nat → Nat} (C0 : zCx p s m c meth args cX7_isBetween 3 wsX7_isBetween RX7 (some .boolean) D cy ad L K) (N : Nat) {M : ZM} {r : Int32} (h : f_X7_isBetween_19 N  = some r) {H : Heap} {locs : List Loc} {ls : Array Slot} (hW : zWd D cy ad L K len M H) (hS : va_S (zA ad L s.heap.size) s.heap H locs) (hl : lv_has ls 3 []) : W p l e (headSpec wsX7_isBetween ({ frames := 0, cells := 0, slots := 0, locals := 0 } : Room)).room s m args below meth c H locs 0 0 (MQ below (zQi D cy ad L K len r M s.heap.size) args s 0 0 (zA ad L s.heap.size)) (F0 m 19 ls []) := by
  obtain ⟨hx, hb, hr, hml, hown, hts, hlocks, hK, hL, hE⟩ := id C0
  unfold f_X7_isBetween_19 at h
  refine lv_iconst (v := 0) hx hb dX7_isBetween_19 (by decide) ?_
  refine lv_goto (tgt := 38) hx hb dX7_isBetween_20 (by decide) ?_
  exact z_zret hx hb hr hlocks hW hS (by decide) (Option.some.inj h) rfl dX7_isBetween_38
def f_X7_isBetween_0 (N : Nat) (x0 : Int32) (x1 : Int32) (x2 : Int32) : Option (Int32) :=
(if x2 ≤ x1 then
(if x0 ≤ x2 then
some (0 : Int32)
else
(if x1 ≤ x0 then
some (0 : Int32)
else
some (1 : Int32)))
else
(if x0 ≤ x1 then
f_X7_isBetween_19 N  
else
(if x2 ≤ x0 then
f_X7_isBetween_19 N  
else
some (1 : Int32))))
set_option maxRecDepth 100000 in
set_option maxHeartbeats 4000000 in
theorem t_X7_isBetween_0 {p : Program} {l : Launch} {e : Env} {s : State} {m : MethodId} {args : Array Value} {below : List Frame} {meth : Method} {c : Code} {D : va_G} {cy : Nat → ClassId} {ad : Nat → Nat} {L : List Nat} {K len : Nat → Nat} (C0 : zCx p s m c meth args cX7_isBetween 3 wsX7_isBetween RX7 (some .boolean) D cy ad L K) (N : Nat) {x0 : Int32} {x1 : Int32} {x2 : Int32} {M : ZM} {r : Int32} (h : f_X7_isBetween_0 N x0 x1 x2 = some r) {H : Heap} {locs : List Loc} {ls : Array Slot} (hW : zWd D cy ad L K len M H) (hS : va_S (zA ad L s.heap.size) s.heap H locs) (hl : lv_has ls 3 [(0, .int x0), (1, .int x1), (2, .int x2)]) : W p l e (headSpec wsX7_isBetween ({ frames := 0, cells := 0, slots := 0, locals := 0 } : Room)).room s m args below meth c H locs 0 0 (MQ below (zQi D cy ad L K len r M s.heap.size) args s 0 0 (zA ad L s.heap.size)) (F0 m 0 ls []) := by
  obtain ⟨hx, hb, hr, hml, hown, hts, hlocks, hK, hL, hE⟩ := id C0
  unfold f_X7_isBetween_0 at h
  refine lv_iload_n hx hb dX7_isBetween_0 rfl (lv_at hl 1 rfl) ?_
  refine lv_iload_n hx hb dX7_isBetween_1 rfl (lv_at hl 2 rfl) ?_
  refine lv_icmp_ge (tgt := 23) hx hb dX7_isBetween_2 (by decide) (fun c1 => ?_) (fun c1 => ?_)
  · have h := zip c1 h
    refine lv_iload_n hx hb dX7_isBetween_23 rfl (lv_at hl 0 rfl) ?_
    refine lv_iload_n hx hb dX7_isBetween_24 rfl (lv_at hl 2 rfl) ?_
    refine lv_icmp_le (tgt := 37) hx hb dX7_isBetween_25 (by decide) (fun c2 => ?_) (fun c2 => ?_)
    · have h := zip c2 h
      refine lv_iconst (v := 0) hx hb dX7_isBetween_37 (by decide) ?_
      exact z_zret hx hb hr hlocks hW hS (by decide) (Option.some.inj h) rfl dX7_isBetween_38
    · have h := zin c2 h
      refine lv_iload_n hx hb dX7_isBetween_28 rfl (lv_at hl 0 rfl) ?_
      refine lv_iload_n hx hb dX7_isBetween_29 rfl (lv_at hl 1 rfl) ?_
      refine lv_icmp_ge (tgt := 37) hx hb dX7_isBetween_30 (by decide) (fun c3 => ?_) (fun c3 => ?_)
      · have h := zip c3 h
        refine lv_iconst (v := 0) hx hb dX7_isBetween_37 (by decide) ?_
        exact z_zret hx hb hr hlocks hW hS (by decide) (Option.some.inj h) rfl dX7_isBetween_38
      · have h := zin c3 h
        refine lv_iconst (v := 1) hx hb dX7_isBetween_33 (by decide) ?_
        refine lv_goto (tgt := 38) hx hb dX7_isBetween_34 (by decide) ?_
        exact z_zret hx hb hr hlocks hW hS (by decide) (Option.some.inj h) rfl dX7_isBetween_38
  · have h := zin c1 h
    refine lv_iload_n hx hb dX7_isBetween_5 rfl (lv_at hl 0 rfl) ?_
    refine lv_iload_n hx hb dX7_isBetween_6 rfl (lv_at hl 1 rfl) ?_
    refine lv_icmp_le (tgt := 19) hx hb dX7_isBetween_7 (by decide) (fun c4 => ?_) (fun c4 => ?_)
    · have h := zip c4 h
      exact t_X7_isBetween_19 C0 N  h hW hS (lv_sub hl [] rfl)
    · have h := zin c4 h
      refine lv_iload_n hx hb dX7_isBetween_10 rfl (lv_at hl 0 rfl) ?_
      refine lv_iload_n hx hb dX7_isBetween_11 rfl (lv_at hl 2 rfl) ?_
      refine lv_icmp_ge (tgt := 19) hx hb dX7_isBetween_12 (by decide) (fun c5 => ?_) (fun c5 => ?_)
      · have h := zip c5 h
        exact t_X7_isBetween_19 C0 N  h hW hS (lv_sub hl [] rfl)
      · have h := zin c5 h
        refine lv_iconst (v := 1) hx hb dX7_isBetween_15 (by decide) ?_
        refine lv_goto (tgt := 38) hx hb dX7_isBetween_16 (by decide) ?_
        exact z_zret hx hb hr hlocks hW hS (by decide) (Option.some.inj h) rfl dX7_isBetween_38
def f_X7_isBetween (N : Nat) (a0 : Int32) (a1 : Int32) (a2 : Int32) : Option (Int32) := f_X7_isBetween_0 N a0 a1 a2
set_option maxRecDepth 100000 in
set_option maxHeartbeats 4000000 in
theorem m_X7_isBetween (l : Launch) {D : va_G} {cy : Nat → ClassId} {ad : Nat → Nat} {L : List Nat} {K len : Nat → Nat} (hL : zSh ad L K) (N : Nat) {a0 : Int32} {a1 : Int32} {a2 : Int32} {M : ZM} {r : Int32} (h : f_X7_isBetween N a0 a1 a2 = some r) (sz : Nat) : Met l yX7_isBetween wsX7_isBetween ({ frames := 0, cells := 0, slots := 0, locals := 0 } : Room) (zPre D cy ad L K len sz [.int a0, .int a1, .int a2] M) (zQi D cy ad L K len r M sz) 0 0 (zA ad L sz) :=
  z_entry (Qf := fun sz => zQi D cy ad L K len r M sz) (av := [.int a0, .int a1, .int a2]) (by decide) rfl rfl hL (Nat.le_of_ble_eq_true rfl) (fun p e s m args below meth c C0 H locs ls hW hS hl => t_X7_isBetween_0 C0 N h hW hS (lv_sub hl [0, 1, 2] rfl))
def f_X7_isBeyond_33 (N : Nat) : Option (Int32) :=
some (1 : Int32)
set_option maxRecDepth 100000 in
set_option maxHeartbeats 4000000 in
theorem t_X7_isBeyond_33 {p : Program} {l : Launch} {e : Env} {s : State} {m : MethodId} {args : Array Value} {below : List Frame} {meth : Method} {c : Code} {D : va_G} {cy : Nat → ClassId} {ad : Nat → Nat} {L : List Nat} {K len : Nat → Nat} (C0 : zCx p s m c meth args cX7_isBeyond 3 wsX7_isBeyond RX7 (some .boolean) D cy ad L K) (N : Nat) {M : ZM} {r : Int32} (h : f_X7_isBeyond_33 N  = some r) {H : Heap} {locs : List Loc} {ls : Array Slot} (hW : zWd D cy ad L K len M H) (hS : va_S (zA ad L s.heap.size) s.heap H locs) (hl : lv_has ls 3 []) : W p l e (headSpec wsX7_isBeyond ({ frames := 0, cells := 0, slots := 0, locals := 0 } : Room)).room s m args below meth c H locs 0 0 (MQ below (zQi D cy ad L K len r M s.heap.size) args s 0 0 (zA ad L s.heap.size)) (F0 m 33 ls []) := by
  obtain ⟨hx, hb, hr, hml, hown, hts, hlocks, hK, hL, hE⟩ := id C0
  unfold f_X7_isBeyond_33 at h
  refine lv_iconst (v := 1) hx hb dX7_isBeyond_33 (by decide) ?_
  refine lv_goto (tgt := 38) hx hb dX7_isBeyond_34 (by decide) ?_
  exact z_zret hx hb hr hlocks hW hS (by decide) (Option.some.inj h) rfl dX7_isBeyond_38
def f_X7_isBeyond_15 (N : Nat) : Option (Int32) :=
some (1 : Int32)
set_option maxRecDepth 100000 in
set_option maxHeartbeats 4000000 in
theorem t_X7_isBeyond_15 {p : Program} {l : Launch} {e : Env} {s : State} {m : MethodId} {args : Array Value} {below : List Frame} {meth : Method} {c : Code} {D : va_G} {cy : Nat → ClassId} {ad : Nat → Nat} {L : List Nat} {K len : Nat → Nat} (C0 : zCx p s m c meth args cX7_isBeyond 3 wsX7_isBeyond RX7 (some .boolean) D cy ad L K) (N : Nat) {M : ZM} {r : Int32} (h : f_X7_isBeyond_15 N  = some r) {H : Heap} {locs : List Loc} {ls : Array Slot} (hW : zWd D cy ad L K len M H) (hS : va_S (zA ad L s.heap.size) s.heap H locs) (hl : lv_has ls 3 []) : W p l e (headSpec wsX7_isBeyond ({ frames := 0, cells := 0, slots := 0, locals := 0 } : Room)).room s m args below meth c H locs 0 0 (MQ below (zQi D cy ad L K len r M s.heap.size) args s 0 0 (zA ad L s.heap.size)) (F0 m 15 ls []) := by
  obtain ⟨hx, hb, hr, hml, hown, hts, hlocks, hK, hL, hE⟩ := id C0
  unfold f_X7_isBeyond_15 at h
  refine lv_iconst (v := 1) hx hb dX7_isBeyond_15 (by decide) ?_
  refine lv_goto (tgt := 38) hx hb dX7_isBeyond_16 (by decide) ?_
  exact z_zret hx hb hr hlocks hW hS (by decide) (Option.some.inj h) rfl dX7_isBeyond_38
def f_X7_isBeyond_0 (N : Nat) (x0 : Int32) (x1 : Int32) (x2 : Int32) : Option (Int32) :=
(if x2 ≤ x1 then
(if x0 < x2 then
f_X7_isBeyond_33 N  
else
(if x0 ≤ x1 then
some (0 : Int32)
else
f_X7_isBeyond_33 N  ))
else
(if x0 < x1 then
f_X7_isBeyond_15 N  
else
(if x0 ≤ x2 then
some (0 : Int32)
else
f_X7_isBeyond_15 N  )))
set_option maxRecDepth 100000 in
set_option maxHeartbeats 4000000 in
theorem t_X7_isBeyond_0 {p : Program} {l : Launch} {e : Env} {s : State} {m : MethodId} {args : Array Value} {below : List Frame} {meth : Method} {c : Code} {D : va_G} {cy : Nat → ClassId} {ad : Nat → Nat} {L : List Nat} {K len : Nat → Nat} (C0 : zCx p s m c meth args cX7_isBeyond 3 wsX7_isBeyond RX7 (some .boolean) D cy ad L K) (N : Nat) {x0 : Int32} {x1 : Int32} {x2 : Int32} {M : ZM} {r : Int32} (h : f_X7_isBeyond_0 N x0 x1 x2 = some r) {H : Heap} {locs : List Loc} {ls : Array Slot} (hW : zWd D cy ad L K len M H) (hS : va_S (zA ad L s.heap.size) s.heap H locs) (hl : lv_has ls 3 [(0, .int x0), (1, .int x1), (2, .int x2)]) : W p l e (headSpec wsX7_isBeyond ({ frames := 0, cells := 0, slots := 0, locals := 0 } : Room)).room s m args below meth c H locs 0 0 (MQ below (zQi D cy ad L K len r M s.heap.size) args s 0 0 (zA ad L s.heap.size)) (F0 m 0 ls []) := by
  obtain ⟨hx, hb, hr, hml, hown, hts, hlocks, hK, hL, hE⟩ := id C0
  unfold f_X7_isBeyond_0 at h
  refine lv_iload_n hx hb dX7_isBeyond_0 rfl (lv_at hl 1 rfl) ?_
  refine lv_iload_n hx hb dX7_isBeyond_1 rfl (lv_at hl 2 rfl) ?_
  refine lv_icmp_ge (tgt := 23) hx hb dX7_isBeyond_2 (by decide) (fun c1 => ?_) (fun c1 => ?_)
  · have h := zip c1 h
    refine lv_iload_n hx hb dX7_isBeyond_23 rfl (lv_at hl 0 rfl) ?_
    refine lv_iload_n hx hb dX7_isBeyond_24 rfl (lv_at hl 2 rfl) ?_
    refine lv_icmp_lt (tgt := 33) hx hb dX7_isBeyond_25 (by decide) (fun c2 => ?_) (fun c2 => ?_)
    · have h := zip c2 h
      exact t_X7_isBeyond_33 C0 N  h hW hS (lv_sub hl [] rfl)
    · have h := zin c2 h
      refine lv_iload_n hx hb dX7_isBeyond_28 rfl (lv_at hl 0 rfl) ?_
      refine lv_iload_n hx hb dX7_isBeyond_29 rfl (lv_at hl 1 rfl) ?_
      refine lv_icmp_le (tgt := 37) hx hb dX7_isBeyond_30 (by decide) (fun c3 => ?_) (fun c3 => ?_)
      · have h := zip c3 h
        refine lv_iconst (v := 0) hx hb dX7_isBeyond_37 (by decide) ?_
        exact z_zret hx hb hr hlocks hW hS (by decide) (Option.some.inj h) rfl dX7_isBeyond_38
      · have h := zin c3 h
        exact t_X7_isBeyond_33 C0 N  h hW hS (lv_sub hl [] rfl)
  · have h := zin c1 h
    refine lv_iload_n hx hb dX7_isBeyond_5 rfl (lv_at hl 0 rfl) ?_
    refine lv_iload_n hx hb dX7_isBeyond_6 rfl (lv_at hl 1 rfl) ?_
    refine lv_icmp_lt (tgt := 15) hx hb dX7_isBeyond_7 (by decide) (fun c4 => ?_) (fun c4 => ?_)
    · have h := zip c4 h
      exact t_X7_isBeyond_15 C0 N  h hW hS (lv_sub hl [] rfl)
    · have h := zin c4 h
      refine lv_iload_n hx hb dX7_isBeyond_10 rfl (lv_at hl 0 rfl) ?_
      refine lv_iload_n hx hb dX7_isBeyond_11 rfl (lv_at hl 2 rfl) ?_
      refine lv_icmp_le (tgt := 19) hx hb dX7_isBeyond_12 (by decide) (fun c5 => ?_) (fun c5 => ?_)
      · have h := zip c5 h
        refine lv_iconst (v := 0) hx hb dX7_isBeyond_19 (by decide) ?_
        refine lv_goto (tgt := 38) hx hb dX7_isBeyond_20 (by decide) ?_
        exact z_zret hx hb hr hlocks hW hS (by decide) (Option.some.inj h) rfl dX7_isBeyond_38
      · have h := zin c5 h
        exact t_X7_isBeyond_15 C0 N  h hW hS (lv_sub hl [] rfl)
def f_X7_isBeyond (N : Nat) (a0 : Int32) (a1 : Int32) (a2 : Int32) : Option (Int32) := f_X7_isBeyond_0 N a0 a1 a2
set_option maxRecDepth 100000 in
set_option maxHeartbeats 4000000 in
theorem m_X7_isBeyond (l : Launch) {D : va_G} {cy : Nat → ClassId} {ad : Nat → Nat} {L : List Nat} {K len : Nat → Nat} (hL : zSh ad L K) (N : Nat) {a0 : Int32} {a1 : Int32} {a2 : Int32} {M : ZM} {r : Int32} (h : f_X7_isBeyond N a0 a1 a2 = some r) (sz : Nat) : Met l yX7_isBeyond wsX7_isBeyond ({ frames := 0, cells := 0, slots := 0, locals := 0 } : Room) (zPre D cy ad L K len sz [.int a0, .int a1, .int a2] M) (zQi D cy ad L K len r M sz) 0 0 (zA ad L sz) :=
  z_entry (Qf := fun sz => zQi D cy ad L K len r M sz) (av := [.int a0, .int a1, .int a2]) (by decide) rfl rfl hL (Nat.le_of_ble_eq_true rfl) (fun p e s m args below meth c C0 H locs ls hW hS hl => t_X7_isBeyond_0 C0 N h hW hS (lv_sub hl [0, 1, 2] rfl))
def f_X7_doCross_53 (N : Nat) (K len : Nat → Nat) (M : ZM) : Option (Int32) :=
some (1 : Int32)
set_option maxRecDepth 100000 in
set_option maxHeartbeats 4000000 in
theorem t_X7_doCross_53 {p : Program} {l : Launch} {e : Env} {s : State} {m : MethodId} {args : Array Value} {below : List Frame} {meth : Method} {c : Code} {D : va_G} {cy : Nat → ClassId} {ad : Nat → Nat} {L : List Nat} {K len : Nat → Nat} (C0 : zCx p s m c meth args cX7_doCross 4 wsX7_doCross RX7 (some .boolean) D cy ad L K) (N : Nat) {M : ZM} {r : Int32} (h : f_X7_doCross_53 N K len M = some r) {H : Heap} {locs : List Loc} {ls : Array Slot} (hW : zWd D cy ad L K len M H) (hS : va_S (zA ad L s.heap.size) s.heap H locs) (hl : lv_has ls 4 []) : W p l e (headSpec wsX7_doCross ({ frames := 1, cells := 0, slots := 0, locals := 22 } : Room)).room s m args below meth c H locs 0 0 (MQ below (zQi D cy ad L K len r M s.heap.size) args s 0 0 (zA ad L s.heap.size)) (F0 m 53 ls []) := by
  obtain ⟨hx, hb, hr, hml, hown, hts, hlocks, hK, hL, hE⟩ := id C0
  unfold f_X7_doCross_53 at h
  refine lv_iconst (v := 1) hx hb dX7_doCross_53 (by decide) ?_
  refine lv_goto (tgt := 58) hx hb dX7_doCross_54 (by decide) ?_
  exact z_zret hx hb hr hlocks hW hS (by decide) (Option.some.inj h) rfl dX7_doCross_58
def f_X7_doCross_30 (N : Nat) (K len : Nat → Nat) (x0 : Nat) (x1 : Int32) (x2 : Int32) (x3 : Int32) (M : ZM) : Option (Int32) :=
zg (K x0 == 8) (
(zR M x0 18).bind fun b2 => (
zg (zok K len b2 11 x1) (
(f_X7_isBetween N (zI M b2 x1.toNatClampNeg) x3 x2).bind fun q5 => (
(if q5 = 0 then
some (0 : Int32)
else
(f_X7_isBeyond N x1 x3 x2).bind fun q8 => (
(if q8 = 0 then
some (0 : Int32)
else
f_X7_doCross_53 N K len  M)))))))
set_option maxRecDepth 100000 in
set_option maxHeartbeats 4000000 in
theorem t_X7_doCross_30 {p : Program} {l : Launch} {e : Env} {s : State} {m : MethodId} {args : Array Value} {below : List Frame} {meth : Method} {c : Code} {D : va_G} {cy : Nat → ClassId} {ad : Nat → Nat} {L : List Nat} {K len : Nat → Nat} (C0 : zCx p s m c meth args cX7_doCross 4 wsX7_doCross RX7 (some .boolean) D cy ad L K) (N : Nat) {x0 : Nat} {x1 : Int32} {x2 : Int32} {x3 : Int32} {M : ZM} {r : Int32} (h : f_X7_doCross_30 N K len x0 x1 x2 x3 M = some r) {H : Heap} {locs : List Loc} {ls : Array Slot} (hW : zWd D cy ad L K len M H) (hS : va_S (zA ad L s.heap.size) s.heap H locs) (hl : lv_has ls 4 [(0, .ref (ad x0)), (1, .int x1), (2, .int x2), (3, .int x3)]) : W p l e (headSpec wsX7_doCross ({ frames := 1, cells := 0, slots := 0, locals := 22 } : Room)).room s m args below meth c H locs 0 0 (MQ below (zQi D cy ad L K len r M s.heap.size) args s 0 0 (zA ad L s.heap.size)) (F0 m 30 ls []) := by
  obtain ⟨hx, hb, hr, hml, hown, hts, hlocks, hK, hL, hE⟩ := id C0
  have hinX7 : ∀ w ∈ wsX70, w ∈ wsX7_doCross := by decide +kernel
  unfold f_X7_doCross_30 at h
  refine lv_aload_n hx hb dX7_doCross_30 rfl (lv_at hl 0 rfl) ?_
  obtain ⟨g1, h⟩ := zg_some h
  obtain ⟨b2, e3, h⟩ := zb_some h
  refine z_get (own := RX7) (C := RX7) (T := TX7) (N := 20) (ci := 7) hx hb hts hinX7 hown hK hL hW 18 (zK_of g1) rfl (by decide) (by decide) rfl (hts (.fieldLink RX7 52 "ArcLightModel" "head" "[I") (by decide +kernel)) (v := .ref (ad b2)) (zhvR e3 rfl) dX7_doCross_31 ?_
  refine lv_iload_n hx hb dX7_doCross_34 rfl (lv_at hl 1 rfl) ?_
  obtain ⟨g4, h⟩ := zg_some h
  refine z_iald hx hb hK hL hW g4 dX7_doCross_35 ?_
  refine lv_iload_n hx hb dX7_doCross_36 rfl (lv_at hl 3 rfl) ?_
  refine lv_iload_n hx hb dX7_doCross_37 rfl (lv_at hl 2 rfl) ?_
  obtain ⟨q5, e6, h⟩ := zb_some h
  refine z_calli hS (va_runS (As := [.int (zI M b2 x1.toNatClampNeg), .int x3, .int x2]) (rest := []) ⟨hx, hb, hml, hown, hts⟩ (m_X7_isBetween l (M := M) hL N e6 H.size) (va_cwS 3 hts gX7_doCross_X7_isBetween rfl rfl rfl (by decide +kernel) ⟨Nat.le_of_ble_eq_true rfl, Nat.le_of_ble_eq_true rfl⟩) (z_preS hK hE hW hS [.int (zI M b2 x1.toNatClampNeg), .int x3, .int x2]) rfl rfl hl.1 rfl (lv_room (Nat.le_of_ble_eq_true rfl)) dX7_doCross_38 ⟨Nat.le_of_ble_eq_true rfl, Nat.le_of_ble_eq_true rfl⟩) (fun H locs hW hS => ?_)
  refine lv_if_eq (tgt := 57) hx hb dX7_doCross_41 (by decide) (fun c7 => ?_) (fun c7 => ?_)
  · have h := zip c7 h
    refine lv_iconst (v := 0) hx hb dX7_doCross_57 (by decide) ?_
    exact z_zret hx hb hr hlocks hW hS (by decide) (Option.some.inj h) rfl dX7_doCross_58
  · have h := zin c7 h
    refine lv_iload_n hx hb dX7_doCross_44 rfl (lv_at hl 1 rfl) ?_
    refine lv_iload_n hx hb dX7_doCross_45 rfl (lv_at hl 3 rfl) ?_
    refine lv_iload_n hx hb dX7_doCross_46 rfl (lv_at hl 2 rfl) ?_
    obtain ⟨q8, e9, h⟩ := zb_some h
    refine z_calli hS (va_runS (As := [.int x1, .int x3, .int x2]) (rest := []) ⟨hx, hb, hml, hown, hts⟩ (m_X7_isBeyond l (M := M) hL N e9 H.size) (va_cwS 3 hts gX7_doCross_X7_isBeyond rfl rfl rfl (by decide +kernel) ⟨Nat.le_of_ble_eq_true rfl, Nat.le_of_ble_eq_true rfl⟩) (z_preS hK hE hW hS [.int x1, .int x3, .int x2]) rfl rfl hl.1 rfl (lv_room (Nat.le_of_ble_eq_true rfl)) dX7_doCross_47 ⟨Nat.le_of_ble_eq_true rfl, Nat.le_of_ble_eq_true rfl⟩) (fun H locs hW hS => ?_)
    refine lv_if_eq (tgt := 57) hx hb dX7_doCross_50 (by decide) (fun c10 => ?_) (fun c10 => ?_)
    · have h := zip c10 h
      refine lv_iconst (v := 0) hx hb dX7_doCross_57 (by decide) ?_
      exact z_zret hx hb hr hlocks hW hS (by decide) (Option.some.inj h) rfl dX7_doCross_58
    · have h := zin c10 h
      exact t_X7_doCross_53 C0 N  h hW hS (lv_sub hl [] rfl)
def f_X7_doCross_0 (N : Nat) (K len : Nat → Nat) (x0 : Nat) (x1 : Int32) (x2 : Int32) (M : ZM) : Option (Int32) :=
zg (K x0 == 8) (
(zR M x0 18).bind fun b2 => (
zg (zok K len b2 11 x2) (
(f_X7_isBetween N x1 (zI M b2 x2.toNatClampNeg) x2).bind fun q5 => (
(if q5 = 0 then
f_X7_doCross_30 N K len  x0 x1 x2 (zI M b2 x2.toNatClampNeg) M
else
zg (zok K len b2 11 x1) (
(f_X7_isBeyond N (zI M b2 x1.toNatClampNeg) (zI M b2 x2.toNatClampNeg) x2).bind fun q9 => (
(if q9 = 0 then
f_X7_doCross_30 N K len  x0 x1 x2 (zI M b2 x2.toNatClampNeg) M
else
f_X7_doCross_53 N K len  M))))))))
set_option maxRecDepth 100000 in
set_option maxHeartbeats 4000000 in
theorem t_X7_doCross_0 {p : Program} {l : Launch} {e : Env} {s : State} {m : MethodId} {args : Array Value} {below : List Frame} {meth : Method} {c : Code} {D : va_G} {cy : Nat → ClassId} {ad : Nat → Nat} {L : List Nat} {K len : Nat → Nat} (C0 : zCx p s m c meth args cX7_doCross 4 wsX7_doCross RX7 (some .boolean) D cy ad L K) (N : Nat) {x0 : Nat} {x1 : Int32} {x2 : Int32} {M : ZM} {r : Int32} (h : f_X7_doCross_0 N K len x0 x1 x2 M = some r) {H : Heap} {locs : List Loc} {ls : Array Slot} (hW : zWd D cy ad L K len M H) (hS : va_S (zA ad L s.heap.size) s.heap H locs) (hl : lv_has ls 4 [(0, .ref (ad x0)), (1, .int x1), (2, .int x2)]) : W p l e (headSpec wsX7_doCross ({ frames := 1, cells := 0, slots := 0, locals := 22 } : Room)).room s m args below meth c H locs 0 0 (MQ below (zQi D cy ad L K len r M s.heap.size) args s 0 0 (zA ad L s.heap.size)) (F0 m 0 ls []) := by
  obtain ⟨hx, hb, hr, hml, hown, hts, hlocks, hK, hL, hE⟩ := id C0
  have hinX7 : ∀ w ∈ wsX70, w ∈ wsX7_doCross := by decide +kernel
  unfold f_X7_doCross_0 at h
  refine lv_aload_n hx hb dX7_doCross_0 rfl (lv_at hl 0 rfl) ?_
  obtain ⟨g1, h⟩ := zg_some h
  obtain ⟨b2, e3, h⟩ := zb_some h
  refine z_get (own := RX7) (C := RX7) (T := TX7) (N := 20) (ci := 7) hx hb hts hinX7 hown hK hL hW 18 (zK_of g1) rfl (by decide) (by decide) rfl (hts (.fieldLink RX7 52 "ArcLightModel" "head" "[I") (by decide +kernel)) (v := .ref (ad b2)) (zhvR e3 rfl) dX7_doCross_1 ?_
  refine lv_iload_n hx hb dX7_doCross_4 rfl (lv_at hl 2 rfl) ?_
  obtain ⟨g4, h⟩ := zg_some h
  refine z_iald hx hb hK hL hW g4 dX7_doCross_5 ?_
  refine lv_istore_n (lv' := [(3, .int (zI M b2 x2.toNatClampNeg)), (0, .ref (ad x0)), (1, .int x1), (2, .int x2)]) hx hb dX7_doCross_6 rfl hl (by decide) rfl (fun ls hl => ?_)
  refine lv_iload_n hx hb dX7_doCross_7 rfl (lv_at hl 2 rfl) ?_
  refine lv_iload_n hx hb dX7_doCross_8 rfl (lv_at hl 0 rfl) ?_
  refine lv_iload_n hx hb dX7_doCross_9 rfl (lv_at hl 3 rfl) ?_
  obtain ⟨q5, e6, h⟩ := zb_some h
  refine z_calli hS (va_runS (As := [.int x1, .int (zI M b2 x2.toNatClampNeg), .int x2]) (rest := []) ⟨hx, hb, hml, hown, hts⟩ (m_X7_isBetween l (M := M) hL N e6 H.size) (va_cwS 3 hts gX7_doCross_X7_isBetween rfl rfl rfl (by decide +kernel) ⟨Nat.le_of_ble_eq_true rfl, Nat.le_of_ble_eq_true rfl⟩) (z_preS hK hE hW hS [.int x1, .int (zI M b2 x2.toNatClampNeg), .int x2]) rfl rfl hl.1 rfl (lv_room (Nat.le_of_ble_eq_true rfl)) dX7_doCross_10 ⟨Nat.le_of_ble_eq_true rfl, Nat.le_of_ble_eq_true rfl⟩) (fun H locs hW hS => ?_)
  refine lv_if_eq (tgt := 30) hx hb dX7_doCross_13 (by decide) (fun c7 => ?_) (fun c7 => ?_)
  · have h := zip c7 h
    exact t_X7_doCross_30 C0 N  h hW hS (lv_sub hl [1, 2, 3, 0] rfl)
  · have h := zin c7 h
    refine lv_aload_n hx hb dX7_doCross_16 rfl (lv_at hl 1 rfl) ?_
    refine z_get (own := RX7) (C := RX7) (T := TX7) (N := 20) (ci := 7) hx hb hts hinX7 hown hK hL hW 18 (zK_of g1) rfl (by decide) (by decide) rfl (hts (.fieldLink RX7 52 "ArcLightModel" "head" "[I") (by decide +kernel)) (v := .ref (ad b2)) (zhvR e3 rfl) dX7_doCross_17 ?_
    refine lv_iload_n hx hb dX7_doCross_20 rfl (lv_at hl 2 rfl) ?_
    obtain ⟨g8, h⟩ := zg_some h
    refine z_iald hx hb hK hL hW g8 dX7_doCross_21 ?_
    refine lv_iload_n hx hb dX7_doCross_22 rfl (lv_at hl 0 rfl) ?_
    refine lv_iload_n hx hb dX7_doCross_23 rfl (lv_at hl 3 rfl) ?_
    obtain ⟨q9, e10, h⟩ := zb_some h
    refine z_calli hS (va_runS (As := [.int (zI M b2 x1.toNatClampNeg), .int (zI M b2 x2.toNatClampNeg), .int x2]) (rest := []) ⟨hx, hb, hml, hown, hts⟩ (m_X7_isBeyond l (M := M) hL N e10 H.size) (va_cwS 3 hts gX7_doCross_X7_isBeyond rfl rfl rfl (by decide +kernel) ⟨Nat.le_of_ble_eq_true rfl, Nat.le_of_ble_eq_true rfl⟩) (z_preS hK hE hW hS [.int (zI M b2 x1.toNatClampNeg), .int (zI M b2 x2.toNatClampNeg), .int x2]) rfl rfl hl.1 rfl (lv_room (Nat.le_of_ble_eq_true rfl)) dX7_doCross_24 ⟨Nat.le_of_ble_eq_true rfl, Nat.le_of_ble_eq_true rfl⟩) (fun H locs hW hS => ?_)
    refine lv_if_ne (tgt := 53) hx hb dX7_doCross_27 (by decide) (fun c11 => ?_) (fun c11 => ?_)
    · have h := zin c11 h
      exact t_X7_doCross_53 C0 N  h hW hS (lv_sub hl [] rfl)
    · have h := zip c11 h
      exact t_X7_doCross_30 C0 N  h hW hS (lv_sub hl [1, 2, 3, 0] rfl)
def f_X7_doCross (N : Nat) (K len : Nat → Nat) (a0 : Nat) (a1 : Int32) (a2 : Int32) (M : ZM) : Option (Int32) := f_X7_doCross_0 N K len a0 a1 a2 M
set_option maxRecDepth 100000 in
set_option maxHeartbeats 4000000 in
theorem m_X7_doCross (l : Launch) {D : va_G} {cy : Nat → ClassId} {ad : Nat → Nat} {L : List Nat} {K len : Nat → Nat} (hL : zSh ad L K) (N : Nat) {a0 : Nat} {a1 : Int32} {a2 : Int32} {M : ZM} {r : Int32} (h : f_X7_doCross N K len a0 a1 a2 M = some r) (sz : Nat) : Met l yX7_doCross wsX7_doCross ({ frames := 1, cells := 0, slots := 0, locals := 22 } : Room) (zPre D cy ad L K len sz [.ref (ad a0), .int a1, .int a2] M) (zQi D cy ad L K len r M sz) 0 0 (zA ad L sz) :=
  z_entry (Qf := fun sz => zQi D cy ad L K len r M sz) (av := [.ref (ad a0), .int a1, .int a2]) (by decide) rfl rfl hL (Nat.le_of_ble_eq_true rfl) (fun p e s m args below meth c C0 H locs ls hW hS hl => t_X7_doCross_0 C0 N h hW hS (lv_sub hl [0, 1, 2] rfl))
def f_X7_may_177 (N : Nat) (K len : Nat → Nat) (kh147 : Nat → Int32 → Int32 → Int32 → Int32 → Option (Int32)) (x0 : Nat) (x2 : Int32) (x3 : Int32) (x7 : Int32) (s0 : Int32) (M : ZM) : Option (Int32) :=
kh147 x0 x2 x3 s0 (x7 + 1)
set_option maxRecDepth 100000 in
set_option maxHeartbeats 4000000 in
theorem t_X7_may_177 {p : Program} {l : Launch} {e : Env} {s : State} {m : MethodId} {args : Array Value} {below : List Frame} {meth : Method} {c : Code} {D : va_G} {cy : Nat → ClassId} {ad : Nat → Nat} {L : List Nat} {K len : Nat → Nat} (C0 : zCx p s m c meth args cX7_may 8 wsX7_may RX7 (some .boolean) D cy ad L K) (N : Nat) {kh147 : Nat → Int32 → Int32 → Int32 → Int32 → Option (Int32)} {x0 : Nat} {x2 : Int32} {x3 : Int32} {x7 : Int32} {s0 : Int32} {M : ZM} {r : Int32} (hk147 : ∀ {y0 : Nat} {y2 : Int32} {y3 : Int32} {y5 : Int32} {y7 : Int32}, kh147 y0 y2 y3 y5 y7 = some r → ∀ {H : Heap} {locs : List Loc} {ls : Array Slot}, zWd D cy ad L K len M H → va_S (zA ad L s.heap.size) s.heap H locs → lv_has ls 8 [(0, .ref (ad y0)), (2, .int y2), (3, .int y3), (5, .int y5), (7, .int y7)] → W p l e (headSpec wsX7_may ({ frames := 2, cells := 0, slots := 0, locals := 45 } : Room)).room s m args below meth c H locs 0 0 (MQ below (zQi D cy ad L K len r M s.heap.size) args s 0 0 (zA ad L s.heap.size)) (F0 m 147 ls [])) (h : f_X7_may_177 N K len kh147 x0 x2 x3 x7 s0 M = some r) {H : Heap} {locs : List Loc} {ls : Array Slot} (hW : zWd D cy ad L K len M H) (hS : va_S (zA ad L s.heap.size) s.heap H locs) (hl : lv_has ls 8 [(0, .ref (ad x0)), (2, .int x2), (3, .int x3), (7, .int x7)]) : W p l e (headSpec wsX7_may ({ frames := 2, cells := 0, slots := 0, locals := 45 } : Room)).room s m args below meth c H locs 0 0 (MQ below (zQi D cy ad L K len r M s.heap.size) args s 0 0 (zA ad L s.heap.size)) (F0 m 177 ls [.int s0]) := by
  obtain ⟨hx, hb, hr, hml, hown, hts, hlocks, hK, hL, hE⟩ := id C0
  unfold f_X7_may_177 at h
  refine lv_istore (lv' := [(5, .int s0), (0, .ref (ad x0)), (2, .int x2), (3, .int x3), (7, .int x7)]) hx hb dX7_may_177 hl (by decide) rfl (fun ls hl => ?_)
  refine lv_iinc (k := 4) (v := (x7 + 1)) (lv' := [(7, .int (x7 + 1)), (5, .int s0), (0, .ref (ad x0)), (2, .int x2), (3, .int x3)]) hx hb dX7_may_179 hl rfl (by rw [show Int32.ofInt 1 = (1 : Int32) from by decide]) (by decide) rfl (fun ls hl => ?_)
  refine lv_goto (tgt := 147) hx hb dX7_may_182 (by decide) ?_
  exact hk147 h hW hS (lv_sub hl [2, 3, 4, 1, 0] rfl)
def f_X7_may_147 (N : Nat) (K len : Nat → Nat) : Nat → Nat → Int32 → Int32 → Int32 → Int32 → ZM → Option (Int32)
  | 0, _, _, _, _, _, _ => none
  | n + 1, x0, x2, x3, x5, x7, M =>
    (if x2 ≤ x7 then
    zg (zbo x5) (
    some x5)
    else
    (if x5 = 0 then
    zg (zbo x5) (
    some x5)
    else
    (if x3 = 0 then
    (f_X7_doCross N K len x0 x2 x7 M).bind fun q7 => (
    zg (K x0 == 8) (
    (if q7 = 0 then
    f_X7_may_177 N K len (fun y0 y2 y3 y5 y7 => f_X7_may_147 N K len  n y0 y2 y3 y5 y7 M) x0 x2 x3 x7 (1 : Int32) M
    else
    f_X7_may_177 N K len (fun y0 y2 y3 y5 y7 => f_X7_may_147 N K len  n y0 y2 y3 y5 y7 M) x0 x2 x3 x7 (0 : Int32) M)))
    else
    zg (zbo x5) (
    some x5))))
set_option maxRecDepth 100000 in
set_option maxHeartbeats 4000000 in
theorem t_X7_may_147 {p : Program} {l : Launch} {e : Env} {s : State} {m : MethodId} {args : Array Value} {below : List Frame} {meth : Method} {c : Code} {D : va_G} {cy : Nat → ClassId} {ad : Nat → Nat} {L : List Nat} {K len : Nat → Nat} (C0 : zCx p s m c meth args cX7_may 8 wsX7_may RX7 (some .boolean) D cy ad L K) (N : Nat) {M : ZM} {r : Int32} : ∀ (n : Nat) {x0 : Nat} {x2 : Int32} {x3 : Int32} {x5 : Int32} {x7 : Int32}, f_X7_may_147 N K len n x0 x2 x3 x5 x7 M = some r → ∀ {H : Heap} {locs : List Loc} {ls : Array Slot}, zWd D cy ad L K len M H → va_S (zA ad L s.heap.size) s.heap H locs → lv_has ls 8 [(0, .ref (ad x0)), (2, .int x2), (3, .int x3), (5, .int x5), (7, .int x7)] → W p l e (headSpec wsX7_may ({ frames := 2, cells := 0, slots := 0, locals := 45 } : Room)).room s m args below meth c H locs 0 0 (MQ below (zQi D cy ad L K len r M s.heap.size) args s 0 0 (zA ad L s.heap.size)) (F0 m 147 ls []) := by
  obtain ⟨hx, hb, hr, hml, hown, hts, hlocks, hK, hL, hE⟩ := id C0
  intro n
  induction n with
  | zero =>
    intro x0 x2 x3 x5 x7 h
    cases (show (none : Option (Int32)) = some r from h)
  | succ n ih =>
    intro x0 x2 x3 x5 x7 h H locs ls hW hS hl
    rw [f_X7_may_147] at h
    refine lv_iload hx hb dX7_may_147 (lv_at hl 4 rfl) ?_
    refine lv_iload_n hx hb dX7_may_149 rfl (lv_at hl 1 rfl) ?_
    refine lv_icmp_ge (tgt := 185) hx hb dX7_may_150 (by decide) (fun c1 => ?_) (fun c1 => ?_)
    · have h := zip c1 h
      refine lv_iload hx hb dX7_may_185 (lv_at hl 3 rfl) ?_
      obtain ⟨g2, h⟩ := zg_some h
      exact z_zret hx hb hr hlocks hW hS g2 (Option.some.inj h) rfl dX7_may_187
    · have h := zin c1 h
      refine lv_iload hx hb dX7_may_153 (lv_at hl 3 rfl) ?_
      refine lv_if_eq (tgt := 185) hx hb dX7_may_155 (by decide) (fun c3 => ?_) (fun c3 => ?_)
      · have h := zip c3 h
        refine lv_iload hx hb dX7_may_185 (lv_at hl 3 rfl) ?_
        obtain ⟨g4, h⟩ := zg_some h
        exact z_zret hx hb hr hlocks hW hS g4 (Option.some.inj h) rfl dX7_may_187
      · have h := zin c3 h
        refine lv_iload_n hx hb dX7_may_158 rfl (lv_at hl 2 rfl) ?_
        refine lv_if_ne (tgt := 185) hx hb dX7_may_159 (by decide) (fun c5 => ?_) (fun c5 => ?_)
        · have h := zin c5 h
          refine lv_iload hx hb dX7_may_185 (lv_at hl 3 rfl) ?_
          obtain ⟨g6, h⟩ := zg_some h
          exact z_zret hx hb hr hlocks hW hS g6 (Option.some.inj h) rfl dX7_may_187
        · have h := zip c5 h
          refine lv_aload_n hx hb dX7_may_162 rfl (lv_at hl 0 rfl) ?_
          refine lv_iload_n hx hb dX7_may_163 rfl (lv_at hl 1 rfl) ?_
          refine lv_iload hx hb dX7_may_164 (lv_at hl 4 rfl) ?_
          obtain ⟨q7, e8, h⟩ := zb_some h
          obtain ⟨g9, h⟩ := zg_some h
          refine z_calli hS (va_runV (As := [.int x2, .int x7]) (rest := []) ⟨hx, hb, hml, hown, hts⟩ (m_X7_doCross l hL N e8 H.size) (cwV 2 hts gX7_may_X7_doCross rfl rfl rfl (by decide +kernel) ⟨Nat.le_of_ble_eq_true rfl, Nat.le_of_ble_eq_true rfl⟩) (z_preV (q := (RX7, TX7, 20)) hK hL hE hW hS (zK_of g9) (by decide) rfl [.int x2, .int x7]) rfl rfl hl.1 rfl (lv_room (Nat.le_of_ble_eq_true rfl)) dX7_may_166 ⟨Nat.le_of_ble_eq_true rfl, Nat.le_of_ble_eq_true rfl⟩) (fun H locs hW hS => ?_)
          refine lv_if_ne (tgt := 176) hx hb dX7_may_169 (by decide) (fun c10 => ?_) (fun c10 => ?_)
          · have h := zin c10 h
            refine lv_iconst (v := 0) hx hb dX7_may_176 (by decide) ?_
            exact t_X7_may_177 C0 N (fun h _ _ _ hW hS hl => ih h hW hS hl) h hW hS (lv_sub hl [0, 1, 2, 4] rfl)
          · have h := zip c10 h
            refine lv_iconst (v := 1) hx hb dX7_may_172 (by decide) ?_
            refine lv_goto (tgt := 177) hx hb dX7_may_173 (by decide) ?_
            exact t_X7_may_177 C0 N (fun h _ _ _ hW hS hl => ih h hW hS hl) h hW hS (lv_sub hl [0, 1, 2, 4] rfl)
def f_X7_may_142 (N : Nat) (K len : Nat → Nat) (x0 : Nat) (x2 : Int32) (x3 : Int32) (s0 : Int32) (M : ZM) : Option (Int32) :=
f_X7_may_147 N K len  N x0 x2 x3 s0 (1 : Int32) M
set_option maxRecDepth 100000 in
set_option maxHeartbeats 4000000 in
theorem t_X7_may_142 {p : Program} {l : Launch} {e : Env} {s : State} {m : MethodId} {args : Array Value} {below : List Frame} {meth : Method} {c : Code} {D : va_G} {cy : Nat → ClassId} {ad : Nat → Nat} {L : List Nat} {K len : Nat → Nat} (C0 : zCx p s m c meth args cX7_may 8 wsX7_may RX7 (some .boolean) D cy ad L K) (N : Nat) {x0 : Nat} {x2 : Int32} {x3 : Int32} {s0 : Int32} {M : ZM} {r : Int32} (h : f_X7_may_142 N K len x0 x2 x3 s0 M = some r) {H : Heap} {locs : List Loc} {ls : Array Slot} (hW : zWd D cy ad L K len M H) (hS : va_S (zA ad L s.heap.size) s.heap H locs) (hl : lv_has ls 8 [(0, .ref (ad x0)), (2, .int x2), (3, .int x3)]) : W p l e (headSpec wsX7_may ({ frames := 2, cells := 0, slots := 0, locals := 45 } : Room)).room s m args below meth c H locs 0 0 (MQ below (zQi D cy ad L K len r M s.heap.size) args s 0 0 (zA ad L s.heap.size)) (F0 m 142 ls [.int s0]) := by
  obtain ⟨hx, hb, hr, hml, hown, hts, hlocks, hK, hL, hE⟩ := id C0
  unfold f_X7_may_142 at h
  refine lv_istore (lv' := [(5, .int s0), (0, .ref (ad x0)), (2, .int x2), (3, .int x3)]) hx hb dX7_may_142 hl (by decide) rfl (fun ls hl => ?_)
  refine lv_iconst (v := 1) hx hb dX7_may_144 (by decide) ?_
  refine lv_istore (lv' := [(7, .int (1 : Int32)), (5, .int s0), (0, .ref (ad x0)), (2, .int x2), (3, .int x3)]) hx hb dX7_may_145 hl (by decide) rfl (fun ls hl => ?_)
  exact t_X7_may_147 C0 N  N h hW hS (lv_sub hl [2, 3, 4, 1, 0] rfl)
def f_X7_may_141 (N : Nat) (K len : Nat → Nat) (x0 : Nat) (x2 : Int32) (x3 : Int32) (M : ZM) : Option (Int32) :=
f_X7_may_142 N K len  x0 x2 x3 (0 : Int32) M
set_option maxRecDepth 100000 in
set_option maxHeartbeats 4000000 in
theorem t_X7_may_141 {p : Program} {l : Launch} {e : Env} {s : State} {m : MethodId} {args : Array Value} {below : List Frame} {meth : Method} {c : Code} {D : va_G} {cy : Nat → ClassId} {ad : Nat → Nat} {L : List Nat} {K len : Nat → Nat} (C0 : zCx p s m c meth args cX7_may 8 wsX7_may RX7 (some .boolean) D cy ad L K) (N : Nat) {x0 : Nat} {x2 : Int32} {x3 : Int32} {M : ZM} {r : Int32} (h : f_X7_may_141 N K len x0 x2 x3 M = some r) {H : Heap} {locs : List Loc} {ls : Array Slot} (hW : zWd D cy ad L K len M H) (hS : va_S (zA ad L s.heap.size) s.heap H locs) (hl : lv_has ls 8 [(0, .ref (ad x0)), (2, .int x2), (3, .int x3)]) : W p l e (headSpec wsX7_may ({ frames := 2, cells := 0, slots := 0, locals := 45 } : Room)).room s m args below meth c H locs 0 0 (MQ below (zQi D cy ad L K len r M s.heap.size) args s 0 0 (zA ad L s.heap.size)) (F0 m 141 ls []) := by
  obtain ⟨hx, hb, hr, hml, hown, hts, hlocks, hK, hL, hE⟩ := id C0
  unfold f_X7_may_141 at h
  refine lv_iconst (v := 0) hx hb dX7_may_141 (by decide) ?_
  exact t_X7_may_142 C0 N  h hW hS (lv_sub hl [0, 1, 2] rfl)
def f_X7_may_126 (N : Nat) (K len : Nat → Nat) (x0 : Nat) (x2 : Int32) (x3 : Int32) (x5 : Int32) (x6 : Int32) (M : ZM) : Option (Int32) :=
(if x5 = 0 then
f_X7_may_141 N K len  x0 x2 x3 M
else
(if x6 = x2 then
f_X7_may_141 N K len  x0 x2 x3 M
else
f_X7_may_142 N K len  x0 x2 x3 (1 : Int32) M))
set_option maxRecDepth 100000 in
set_option maxHeartbeats 4000000 in
theorem t_X7_may_126 {p : Program} {l : Launch} {e : Env} {s : State} {m : MethodId} {args : Array Value} {below : List Frame} {meth : Method} {c : Code} {D : va_G} {cy : Nat → ClassId} {ad : Nat → Nat} {L : List Nat} {K len : Nat → Nat} (C0 : zCx p s m c meth args cX7_may 8 wsX7_may RX7 (some .boolean) D cy ad L K) (N : Nat) {x0 : Nat} {x2 : Int32} {x3 : Int32} {x5 : Int32} {x6 : Int32} {M : ZM} {r : Int32} (h : f_X7_may_126 N K len x0 x2 x3 x5 x6 M = some r) {H : Heap} {locs : List Loc} {ls : Array Slot} (hW : zWd D cy ad L K len M H) (hS : va_S (zA ad L s.heap.size) s.heap H locs) (hl : lv_has ls 8 [(0, .ref (ad x0)), (2, .int x2), (3, .int x3), (5, .int x5), (6, .int x6)]) : W p l e (headSpec wsX7_may ({ frames := 2, cells := 0, slots := 0, locals := 45 } : Room)).room s m args below meth c H locs 0 0 (MQ below (zQi D cy ad L K len r M s.heap.size) args s 0 0 (zA ad L s.heap.size)) (F0 m 126 ls []) := by
  obtain ⟨hx, hb, hr, hml, hown, hts, hlocks, hK, hL, hE⟩ := id C0
  unfold f_X7_may_126 at h
  refine lv_iload hx hb dX7_may_126 (lv_at hl 3 rfl) ?_
  refine lv_if_eq (tgt := 141) hx hb dX7_may_128 (by decide) (fun c1 => ?_) (fun c1 => ?_)
  · have h := zip c1 h
    exact t_X7_may_141 C0 N  h hW hS (lv_sub hl [0, 1, 2] rfl)
  · have h := zin c1 h
    refine lv_iload hx hb dX7_may_131 (lv_at hl 4 rfl) ?_
    refine lv_iload_n hx hb dX7_may_133 rfl (lv_at hl 1 rfl) ?_
    refine lv_icmp_eq (tgt := 141) hx hb dX7_may_134 (by decide) (fun c2 => ?_) (fun c2 => ?_)
    · have h := zip c2 h
      exact t_X7_may_141 C0 N  h hW hS (lv_sub hl [0, 1, 2] rfl)
    · have h := zin c2 h
      refine lv_iconst (v := 1) hx hb dX7_may_137 (by decide) ?_
      refine lv_goto (tgt := 142) hx hb dX7_may_138 (by decide) ?_
      exact t_X7_may_142 C0 N  h hW hS (lv_sub hl [0, 1, 2] rfl)
def f_X7_may_98 (N : Nat) (K len : Nat → Nat) : Nat → Nat → Int32 → Int32 → Int32 → Int32 → ZM → Option (Int32)
  | 0, _, _, _, _, _, _ => none
  | n + 1, x0, x2, x3, x5, x6, M =>
    (if x5 = 0 then
    f_X7_may_126 N K len  x0 x2 x3 x5 x6 M
    else
    (if x6 ≤ 0 then
    f_X7_may_126 N K len  x0 x2 x3 x5 x6 M
    else
    (if x2 ≤ x6 then
    f_X7_may_126 N K len  x0 x2 x3 x5 x6 M
    else
    zg (K x0 == 8) (
    (zR M x0 18).bind fun b5 => (
    zg (zok K len b5 11 x6) (
    f_X7_may_98 N K len  n x0 x2 x3 x5 (zI M b5 x6.toNatClampNeg) M))))))
set_option maxRecDepth 100000 in
set_option maxHeartbeats 4000000 in
theorem t_X7_may_98 {p : Program} {l : Launch} {e : Env} {s : State} {m : MethodId} {args : Array Value} {below : List Frame} {meth : Method} {c : Code} {D : va_G} {cy : Nat → ClassId} {ad : Nat → Nat} {L : List Nat} {K len : Nat → Nat} (C0 : zCx p s m c meth args cX7_may 8 wsX7_may RX7 (some .boolean) D cy ad L K) (N : Nat) {M : ZM} {r : Int32} : ∀ (n : Nat) {x0 : Nat} {x2 : Int32} {x3 : Int32} {x5 : Int32} {x6 : Int32}, f_X7_may_98 N K len n x0 x2 x3 x5 x6 M = some r → ∀ {H : Heap} {locs : List Loc} {ls : Array Slot}, zWd D cy ad L K len M H → va_S (zA ad L s.heap.size) s.heap H locs → lv_has ls 8 [(0, .ref (ad x0)), (2, .int x2), (3, .int x3), (5, .int x5), (6, .int x6)] → W p l e (headSpec wsX7_may ({ frames := 2, cells := 0, slots := 0, locals := 45 } : Room)).room s m args below meth c H locs 0 0 (MQ below (zQi D cy ad L K len r M s.heap.size) args s 0 0 (zA ad L s.heap.size)) (F0 m 98 ls []) := by
  obtain ⟨hx, hb, hr, hml, hown, hts, hlocks, hK, hL, hE⟩ := id C0
  have hinX7 : ∀ w ∈ wsX70, w ∈ wsX7_may := by decide +kernel
  intro n
  induction n with
  | zero =>
    intro x0 x2 x3 x5 x6 h
    cases (show (none : Option (Int32)) = some r from h)
  | succ n ih =>
    intro x0 x2 x3 x5 x6 h H locs ls hW hS hl
    rw [f_X7_may_98] at h
    refine lv_iload hx hb dX7_may_98 (lv_at hl 3 rfl) ?_
    refine lv_if_eq (tgt := 126) hx hb dX7_may_100 (by decide) (fun c1 => ?_) (fun c1 => ?_)
    · have h := zip c1 h
      exact t_X7_may_126 C0 N  h hW hS (lv_sub hl [0, 1, 2, 3, 4] rfl)
    · have h := zin c1 h
      refine lv_iload hx hb dX7_may_103 (lv_at hl 4 rfl) ?_
      refine lv_if_le (tgt := 126) hx hb dX7_may_105 (by decide) (fun c2 => ?_) (fun c2 => ?_)
      · have h := zip c2 h
        exact t_X7_may_126 C0 N  h hW hS (lv_sub hl [0, 1, 2, 3, 4] rfl)
      · have h := zin c2 h
        refine lv_iload hx hb dX7_may_108 (lv_at hl 4 rfl) ?_
        refine lv_iload_n hx hb dX7_may_110 rfl (lv_at hl 1 rfl) ?_
        refine lv_icmp_ge (tgt := 126) hx hb dX7_may_111 (by decide) (fun c3 => ?_) (fun c3 => ?_)
        · have h := zip c3 h
          exact t_X7_may_126 C0 N  h hW hS (lv_sub hl [0, 1, 2, 3, 4] rfl)
        · have h := zin c3 h
          refine lv_aload_n hx hb dX7_may_114 rfl (lv_at hl 0 rfl) ?_
          obtain ⟨g4, h⟩ := zg_some h
          obtain ⟨b5, e6, h⟩ := zb_some h
          refine z_get (own := RX7) (C := RX7) (T := TX7) (N := 20) (ci := 7) hx hb hts hinX7 hown hK hL hW 18 (zK_of g4) rfl (by decide) (by decide) rfl (hts (.fieldLink RX7 52 "ArcLightModel" "head" "[I") (by decide +kernel)) (v := .ref (ad b5)) (zhvR e6 rfl) dX7_may_115 ?_
          refine lv_iload hx hb dX7_may_118 (lv_at hl 4 rfl) ?_
          obtain ⟨g7, h⟩ := zg_some h
          refine z_iald hx hb hK hL hW g7 dX7_may_120 ?_
          refine lv_istore (lv' := [(6, .int (zI M b5 x6.toNatClampNeg)), (0, .ref (ad x0)), (2, .int x2), (3, .int x3), (5, .int x5)]) hx hb dX7_may_121 hl (by decide) rfl (fun ls hl => ?_)
          refine lv_goto (tgt := 98) hx hb dX7_may_123 (by decide) ?_
          exact ih h hW hS (lv_sub hl [1, 2, 3, 4, 0] rfl)
def f_X7_may_86 (N : Nat) (K len : Nat → Nat) (kh41 : Nat → Int32 → Int32 → Int32 → Int32 → Int32 → Int32 → Option (Int32)) (x0 : Nat) (x1 : Int32) (x2 : Int32) (x3 : Int32) (x4 : Int32) (x6 : Int32) (s0 : Int32) (M : ZM) : Option (Int32) :=
kh41 x0 x1 x2 x3 x4 s0 (x6 + 1)
set_option maxRecDepth 100000 in
set_option maxHeartbeats 4000000 in
theorem t_X7_may_86 {p : Program} {l : Launch} {e : Env} {s : State} {m : MethodId} {args : Array Value} {below : List Frame} {meth : Method} {c : Code} {D : va_G} {cy : Nat → ClassId} {ad : Nat → Nat} {L : List Nat} {K len : Nat → Nat} (C0 : zCx p s m c meth args cX7_may 8 wsX7_may RX7 (some .boolean) D cy ad L K) (N : Nat) {kh41 : Nat → Int32 → Int32 → Int32 → Int32 → Int32 → Int32 → Option (Int32)} {x0 : Nat} {x1 : Int32} {x2 : Int32} {x3 : Int32} {x4 : Int32} {x6 : Int32} {s0 : Int32} {M : ZM} {r : Int32} (hk41 : ∀ {y0 : Nat} {y1 : Int32} {y2 : Int32} {y3 : Int32} {y4 : Int32} {y5 : Int32} {y6 : Int32}, kh41 y0 y1 y2 y3 y4 y5 y6 = some r → ∀ {H : Heap} {locs : List Loc} {ls : Array Slot}, zWd D cy ad L K len M H → va_S (zA ad L s.heap.size) s.heap H locs → lv_has ls 8 [(0, .ref (ad y0)), (1, .int y1), (2, .int y2), (3, .int y3), (4, .int y4), (5, .int y5), (6, .int y6)] → W p l e (headSpec wsX7_may ({ frames := 2, cells := 0, slots := 0, locals := 45 } : Room)).room s m args below meth c H locs 0 0 (MQ below (zQi D cy ad L K len r M s.heap.size) args s 0 0 (zA ad L s.heap.size)) (F0 m 41 ls [])) (h : f_X7_may_86 N K len kh41 x0 x1 x2 x3 x4 x6 s0 M = some r) {H : Heap} {locs : List Loc} {ls : Array Slot} (hW : zWd D cy ad L K len M H) (hS : va_S (zA ad L s.heap.size) s.heap H locs) (hl : lv_has ls 8 [(0, .ref (ad x0)), (1, .int x1), (2, .int x2), (3, .int x3), (4, .int x4), (6, .int x6)]) : W p l e (headSpec wsX7_may ({ frames := 2, cells := 0, slots := 0, locals := 45 } : Room)).room s m args below meth c H locs 0 0 (MQ below (zQi D cy ad L K len r M s.heap.size) args s 0 0 (zA ad L s.heap.size)) (F0 m 86 ls [.int s0]) := by
  obtain ⟨hx, hb, hr, hml, hown, hts, hlocks, hK, hL, hE⟩ := id C0
  unfold f_X7_may_86 at h
  refine lv_istore (lv' := [(5, .int s0), (0, .ref (ad x0)), (1, .int x1), (2, .int x2), (3, .int x3), (4, .int x4), (6, .int x6)]) hx hb dX7_may_86 hl (by decide) rfl (fun ls hl => ?_)
  refine lv_iinc (k := 6) (v := (x6 + 1)) (lv' := [(6, .int (x6 + 1)), (5, .int s0), (0, .ref (ad x0)), (1, .int x1), (2, .int x2), (3, .int x3), (4, .int x4)]) hx hb dX7_may_88 hl rfl (by rw [show Int32.ofInt 1 = (1 : Int32) from by decide]) (by decide) rfl (fun ls hl => ?_)
  refine lv_goto (tgt := 41) hx hb dX7_may_91 (by decide) ?_
  exact hk41 h hW hS (lv_sub hl [2, 3, 4, 5, 6, 1, 0] rfl)
def f_X7_may_85 (N : Nat) (K len : Nat → Nat) (kh41 : Nat → Int32 → Int32 → Int32 → Int32 → Int32 → Int32 → Option (Int32)) (x0 : Nat) (x1 : Int32) (x2 : Int32) (x3 : Int32) (x4 : Int32) (x6 : Int32) (M : ZM) : Option (Int32) :=
f_X7_may_86 N K len kh41 x0 x1 x2 x3 x4 x6 (0 : Int32) M
set_option maxRecDepth 100000 in
set_option maxHeartbeats 4000000 in
theorem t_X7_may_85 {p : Program} {l : Launch} {e : Env} {s : State} {m : MethodId} {args : Array Value} {below : List Frame} {meth : Method} {c : Code} {D : va_G} {cy : Nat → ClassId} {ad : Nat → Nat} {L : List Nat} {K len : Nat → Nat} (C0 : zCx p s m c meth args cX7_may 8 wsX7_may RX7 (some .boolean) D cy ad L K) (N : Nat) {kh41 : Nat → Int32 → Int32 → Int32 → Int32 → Int32 → Int32 → Option (Int32)} {x0 : Nat} {x1 : Int32} {x2 : Int32} {x3 : Int32} {x4 : Int32} {x6 : Int32} {M : ZM} {r : Int32} (hk41 : ∀ {y0 : Nat} {y1 : Int32} {y2 : Int32} {y3 : Int32} {y4 : Int32} {y5 : Int32} {y6 : Int32}, kh41 y0 y1 y2 y3 y4 y5 y6 = some r → ∀ {H : Heap} {locs : List Loc} {ls : Array Slot}, zWd D cy ad L K len M H → va_S (zA ad L s.heap.size) s.heap H locs → lv_has ls 8 [(0, .ref (ad y0)), (1, .int y1), (2, .int y2), (3, .int y3), (4, .int y4), (5, .int y5), (6, .int y6)] → W p l e (headSpec wsX7_may ({ frames := 2, cells := 0, slots := 0, locals := 45 } : Room)).room s m args below meth c H locs 0 0 (MQ below (zQi D cy ad L K len r M s.heap.size) args s 0 0 (zA ad L s.heap.size)) (F0 m 41 ls [])) (h : f_X7_may_85 N K len kh41 x0 x1 x2 x3 x4 x6 M = some r) {H : Heap} {locs : List Loc} {ls : Array Slot} (hW : zWd D cy ad L K len M H) (hS : va_S (zA ad L s.heap.size) s.heap H locs) (hl : lv_has ls 8 [(0, .ref (ad x0)), (1, .int x1), (2, .int x2), (3, .int x3), (4, .int x4), (6, .int x6)]) : W p l e (headSpec wsX7_may ({ frames := 2, cells := 0, slots := 0, locals := 45 } : Room)).room s m args below meth c H locs 0 0 (MQ below (zQi D cy ad L K len r M s.heap.size) args s 0 0 (zA ad L s.heap.size)) (F0 m 85 ls []) := by
  obtain ⟨hx, hb, hr, hml, hown, hts, hlocks, hK, hL, hE⟩ := id C0
  unfold f_X7_may_85 at h
  refine lv_iconst (v := 0) hx hb dX7_may_85 (by decide) ?_
  exact t_X7_may_86 C0 N hk41 h hW hS (lv_sub hl [0, 1, 2, 3, 4, 5] rfl)
def f_X7_may_81 (N : Nat) (K len : Nat → Nat) (kh41 : Nat → Int32 → Int32 → Int32 → Int32 → Int32 → Int32 → Option (Int32)) (x0 : Nat) (x1 : Int32) (x2 : Int32) (x3 : Int32) (x4 : Int32) (x6 : Int32) (M : ZM) : Option (Int32) :=
f_X7_may_86 N K len kh41 x0 x1 x2 x3 x4 x6 (1 : Int32) M
set_option maxRecDepth 100000 in
set_option maxHeartbeats 4000000 in
theorem t_X7_may_81 {p : Program} {l : Launch} {e : Env} {s : State} {m : MethodId} {args : Array Value} {below : List Frame} {meth : Method} {c : Code} {D : va_G} {cy : Nat → ClassId} {ad : Nat → Nat} {L : List Nat} {K len : Nat → Nat} (C0 : zCx p s m c meth args cX7_may 8 wsX7_may RX7 (some .boolean) D cy ad L K) (N : Nat) {kh41 : Nat → Int32 → Int32 → Int32 → Int32 → Int32 → Int32 → Option (Int32)} {x0 : Nat} {x1 : Int32} {x2 : Int32} {x3 : Int32} {x4 : Int32} {x6 : Int32} {M : ZM} {r : Int32} (hk41 : ∀ {y0 : Nat} {y1 : Int32} {y2 : Int32} {y3 : Int32} {y4 : Int32} {y5 : Int32} {y6 : Int32}, kh41 y0 y1 y2 y3 y4 y5 y6 = some r → ∀ {H : Heap} {locs : List Loc} {ls : Array Slot}, zWd D cy ad L K len M H → va_S (zA ad L s.heap.size) s.heap H locs → lv_has ls 8 [(0, .ref (ad y0)), (1, .int y1), (2, .int y2), (3, .int y3), (4, .int y4), (5, .int y5), (6, .int y6)] → W p l e (headSpec wsX7_may ({ frames := 2, cells := 0, slots := 0, locals := 45 } : Room)).room s m args below meth c H locs 0 0 (MQ below (zQi D cy ad L K len r M s.heap.size) args s 0 0 (zA ad L s.heap.size)) (F0 m 41 ls [])) (h : f_X7_may_81 N K len kh41 x0 x1 x2 x3 x4 x6 M = some r) {H : Heap} {locs : List Loc} {ls : Array Slot} (hW : zWd D cy ad L K len M H) (hS : va_S (zA ad L s.heap.size) s.heap H locs) (hl : lv_has ls 8 [(0, .ref (ad x0)), (1, .int x1), (2, .int x2), (3, .int x3), (4, .int x4), (6, .int x6)]) : W p l e (headSpec wsX7_may ({ frames := 2, cells := 0, slots := 0, locals := 45 } : Room)).room s m args below meth c H locs 0 0 (MQ below (zQi D cy ad L K len r M s.heap.size) args s 0 0 (zA ad L s.heap.size)) (F0 m 81 ls []) := by
  obtain ⟨hx, hb, hr, hml, hown, hts, hlocks, hK, hL, hE⟩ := id C0
  unfold f_X7_may_81 at h
  refine lv_iconst (v := 1) hx hb dX7_may_81 (by decide) ?_
  refine lv_goto (tgt := 86) hx hb dX7_may_82 (by decide) ?_
  exact t_X7_may_86 C0 N hk41 h hW hS (lv_sub hl [0, 1, 2, 3, 4, 5] rfl)
def f_X7_may_41 (N : Nat) (K len : Nat → Nat) : Nat → Nat → Int32 → Int32 → Int32 → Int32 → Int32 → Int32 → ZM → Option (Int32)
  | 0, _, _, _, _, _, _, _, _ => none
  | n + 1, x0, x1, x2, x3, x4, x5, x6, M =>
    zg (K x0 == 8) (
    (zR M x0 1).bind fun b2 => (
    zg (zok K len b2 11 x1) (
    (if (zI M b2 x1.toNatClampNeg) < x6 then
    f_X7_may_98 N K len  N x0 x2 x3 x5 x4 M
    else
    (if x5 = 0 then
    f_X7_may_85 N K len (fun y0 y1 y2 y3 y4 y5 y6 => f_X7_may_41 N K len  n y0 y1 y2 y3 y4 y5 y6 M) x0 x1 x2 x3 x4 x6 M
    else
    (if x6 = x4 then
    f_X7_may_81 N K len (fun y0 y1 y2 y3 y4 y5 y6 => f_X7_may_41 N K len  n y0 y1 y2 y3 y4 y5 y6 M) x0 x1 x2 x3 x4 x6 M
    else
    (zR M x0 3).bind fun b8 => (
    (f_X7_arc N x0 x1 x6 x2).bind fun q10 => (
    zg (zok K len b8 11 q10) (
    (if (zI M b8 q10.toNatClampNeg) = (1 : Int32) then
    f_X7_may_85 N K len (fun y0 y1 y2 y3 y4 y5 y6 => f_X7_may_41 N K len  n y0 y1 y2 y3 y4 y5 y6 M) x0 x1 x2 x3 x4 x6 M
    else
    f_X7_may_81 N K len (fun y0 y1 y2 y3 y4 y5 y6 => f_X7_may_41 N K len  n y0 y1 y2 y3 y4 y5 y6 M) x0 x1 x2 x3 x4 x6 M))))))))))
set_option maxRecDepth 100000 in
set_option maxHeartbeats 4000000 in
theorem t_X7_may_41 {p : Program} {l : Launch} {e : Env} {s : State} {m : MethodId} {args : Array Value} {below : List Frame} {meth : Method} {c : Code} {D : va_G} {cy : Nat → ClassId} {ad : Nat → Nat} {L : List Nat} {K len : Nat → Nat} (C0 : zCx p s m c meth args cX7_may 8 wsX7_may RX7 (some .boolean) D cy ad L K) (N : Nat) {M : ZM} {r : Int32} : ∀ (n : Nat) {x0 : Nat} {x1 : Int32} {x2 : Int32} {x3 : Int32} {x4 : Int32} {x5 : Int32} {x6 : Int32}, f_X7_may_41 N K len n x0 x1 x2 x3 x4 x5 x6 M = some r → ∀ {H : Heap} {locs : List Loc} {ls : Array Slot}, zWd D cy ad L K len M H → va_S (zA ad L s.heap.size) s.heap H locs → lv_has ls 8 [(0, .ref (ad x0)), (1, .int x1), (2, .int x2), (3, .int x3), (4, .int x4), (5, .int x5), (6, .int x6)] → W p l e (headSpec wsX7_may ({ frames := 2, cells := 0, slots := 0, locals := 45 } : Room)).room s m args below meth c H locs 0 0 (MQ below (zQi D cy ad L K len r M s.heap.size) args s 0 0 (zA ad L s.heap.size)) (F0 m 41 ls []) := by
  obtain ⟨hx, hb, hr, hml, hown, hts, hlocks, hK, hL, hE⟩ := id C0
  have hinX7 : ∀ w ∈ wsX70, w ∈ wsX7_may := by decide +kernel
  intro n
  induction n with
  | zero =>
    intro x0 x1 x2 x3 x4 x5 x6 h
    cases (show (none : Option (Int32)) = some r from h)
  | succ n ih =>
    intro x0 x1 x2 x3 x4 x5 x6 h H locs ls hW hS hl
    rw [f_X7_may_41] at h
    refine lv_iload hx hb dX7_may_41 (lv_at hl 6 rfl) ?_
    refine lv_aload_n hx hb dX7_may_43 rfl (lv_at hl 0 rfl) ?_
    obtain ⟨g1, h⟩ := zg_some h
    obtain ⟨b2, e3, h⟩ := zb_some h
    refine z_get (own := RX7) (C := RX7) (T := TX7) (N := 20) (ci := 7) hx hb hts hinX7 hown hK hL hW 1 (zK_of g1) rfl (by decide) (by decide) rfl (hts (.fieldLink RX7 7 "ArcLightModel" "words" "[I") (by decide +kernel)) (v := .ref (ad b2)) (zhvR e3 rfl) dX7_may_44 ?_
    refine lv_iload_n hx hb dX7_may_47 rfl (lv_at hl 1 rfl) ?_
    obtain ⟨g4, h⟩ := zg_some h
    refine z_iald hx hb hK hL hW g4 dX7_may_48 ?_
    refine lv_icmp_gt (tgt := 94) hx hb dX7_may_49 (by decide) (fun c5 => ?_) (fun c5 => ?_)
    · have h := zip c5 h
      refine lv_iload hx hb dX7_may_94 (lv_at hl 4 rfl) ?_
      refine lv_istore (lv' := [(6, .int x4), (0, .ref (ad x0)), (1, .int x1), (2, .int x2), (3, .int x3), (4, .int x4), (5, .int x5)]) hx hb dX7_may_96 hl (by decide) rfl (fun ls hl => ?_)
      exact t_X7_may_98 C0 N  N h hW hS (lv_sub hl [1, 3, 4, 6, 0] rfl)
    · have h := zin c5 h
      refine lv_iload hx hb dX7_may_52 (lv_at hl 5 rfl) ?_
      refine lv_if_eq (tgt := 85) hx hb dX7_may_54 (by decide) (fun c6 => ?_) (fun c6 => ?_)
      · have h := zip c6 h
        exact t_X7_may_85 C0 N (fun h _ _ _ hW hS hl => ih h hW hS hl) h hW hS (lv_sub hl [0, 1, 2, 3, 4, 6] rfl)
      · have h := zin c6 h
        refine lv_iload hx hb dX7_may_57 (lv_at hl 6 rfl) ?_
        refine lv_iload hx hb dX7_may_59 (lv_at hl 4 rfl) ?_
        refine lv_icmp_eq (tgt := 81) hx hb dX7_may_61 (by decide) (fun c7 => ?_) (fun c7 => ?_)
        · have h := zip c7 h
          exact t_X7_may_81 C0 N (fun h _ _ _ hW hS hl => ih h hW hS hl) h hW hS (lv_sub hl [0, 1, 2, 3, 4, 6] rfl)
        · have h := zin c7 h
          refine lv_aload_n hx hb dX7_may_64 rfl (lv_at hl 0 rfl) ?_
          obtain ⟨b8, e9, h⟩ := zb_some h
          refine z_get (own := RX7) (C := RX7) (T := TX7) (N := 20) (ci := 7) hx hb hts hinX7 hown hK hL hW 3 (zK_of g1) rfl (by decide) (by decide) rfl (hts (.fieldLink RX7 16 "ArcLightModel" "mark" "[I") (by decide +kernel)) (v := .ref (ad b8)) (zhvR e9 rfl) dX7_may_65 ?_
          refine lv_aload_n hx hb dX7_may_68 rfl (lv_at hl 0 rfl) ?_
          refine lv_iload_n hx hb dX7_may_69 rfl (lv_at hl 1 rfl) ?_
          refine lv_iload hx hb dX7_may_70 (lv_at hl 6 rfl) ?_
          refine lv_iload_n hx hb dX7_may_72 rfl (lv_at hl 2 rfl) ?_
          obtain ⟨q10, e11, h⟩ := zb_some h
          refine z_calli hS (va_runV (As := [.int x1, .int x6, .int x2]) (rest := [.ref (ad b8)]) ⟨hx, hb, hml, hown, hts⟩ (m_X7_arc l (M := M) hL N e11 H.size) (cwV 3 hts gX7_may_X7_arc rfl rfl rfl (by decide +kernel) ⟨Nat.le_of_ble_eq_true rfl, Nat.le_of_ble_eq_true rfl⟩) (z_preV (q := (RX7, TX7, 20)) hK hL hE hW hS (zK_of g1) (by decide) rfl [.int x1, .int x6, .int x2]) rfl rfl hl.1 rfl (lv_room (Nat.le_of_ble_eq_true rfl)) dX7_may_73 ⟨Nat.le_of_ble_eq_true rfl, Nat.le_of_ble_eq_true rfl⟩) (fun H locs hW hS => ?_)
          obtain ⟨g12, h⟩ := zg_some h
          refine z_iald hx hb hK hL hW g12 dX7_may_76 ?_
          refine lv_iconst (v := 1) hx hb dX7_may_77 (by decide) ?_
          refine lv_icmp_eq (tgt := 85) hx hb dX7_may_78 (by decide) (fun c13 => ?_) (fun c13 => ?_)
          · have h := zip c13 h
            exact t_X7_may_85 C0 N (fun h _ _ _ hW hS hl => ih h hW hS hl) h hW hS (lv_sub hl [0, 1, 2, 3, 4, 6] rfl)
          · have h := zin c13 h
            exact t_X7_may_81 C0 N (fun h _ _ _ hW hS hl => ih h hW hS hl) h hW hS (lv_sub hl [0, 1, 2, 3, 4, 6] rfl)
def f_X7_may_36 (N : Nat) (K len : Nat → Nat) (x0 : Nat) (x1 : Int32) (x2 : Int32) (x3 : Int32) (x4 : Int32) (s0 : Int32) (M : ZM) : Option (Int32) :=
f_X7_may_41 N K len  N x0 x1 x2 x3 x4 s0 (0 : Int32) M
set_option maxRecDepth 100000 in
set_option maxHeartbeats 4000000 in
theorem t_X7_may_36 {p : Program} {l : Launch} {e : Env} {s : State} {m : MethodId} {args : Array Value} {below : List Frame} {meth : Method} {c : Code} {D : va_G} {cy : Nat → ClassId} {ad : Nat → Nat} {L : List Nat} {K len : Nat → Nat} (C0 : zCx p s m c meth args cX7_may 8 wsX7_may RX7 (some .boolean) D cy ad L K) (N : Nat) {x0 : Nat} {x1 : Int32} {x2 : Int32} {x3 : Int32} {x4 : Int32} {s0 : Int32} {M : ZM} {r : Int32} (h : f_X7_may_36 N K len x0 x1 x2 x3 x4 s0 M = some r) {H : Heap} {locs : List Loc} {ls : Array Slot} (hW : zWd D cy ad L K len M H) (hS : va_S (zA ad L s.heap.size) s.heap H locs) (hl : lv_has ls 8 [(0, .ref (ad x0)), (1, .int x1), (2, .int x2), (3, .int x3), (4, .int x4)]) : W p l e (headSpec wsX7_may ({ frames := 2, cells := 0, slots := 0, locals := 45 } : Room)).room s m args below meth c H locs 0 0 (MQ below (zQi D cy ad L K len r M s.heap.size) args s 0 0 (zA ad L s.heap.size)) (F0 m 36 ls [.int s0]) := by
  obtain ⟨hx, hb, hr, hml, hown, hts, hlocks, hK, hL, hE⟩ := id C0
  unfold f_X7_may_36 at h
  refine lv_istore (lv' := [(5, .int s0), (0, .ref (ad x0)), (1, .int x1), (2, .int x2), (3, .int x3), (4, .int x4)]) hx hb dX7_may_36 hl (by decide) rfl (fun ls hl => ?_)
  refine lv_iconst (v := 0) hx hb dX7_may_38 (by decide) ?_
  refine lv_istore (lv' := [(6, .int (0 : Int32)), (5, .int s0), (0, .ref (ad x0)), (1, .int x1), (2, .int x2), (3, .int x3), (4, .int x4)]) hx hb dX7_may_39 hl (by decide) rfl (fun ls hl => ?_)
  exact t_X7_may_41 C0 N  N h hW hS (lv_sub hl [2, 3, 4, 5, 6, 1, 0] rfl)
def f_X7_may_35 (N : Nat) (K len : Nat → Nat) (x0 : Nat) (x1 : Int32) (x2 : Int32) (x3 : Int32) (x4 : Int32) (M : ZM) : Option (Int32) :=
f_X7_may_36 N K len  x0 x1 x2 x3 x4 (0 : Int32) M
set_option maxRecDepth 100000 in
set_option maxHeartbeats 4000000 in
theorem t_X7_may_35 {p : Program} {l : Launch} {e : Env} {s : State} {m : MethodId} {args : Array Value} {below : List Frame} {meth : Method} {c : Code} {D : va_G} {cy : Nat → ClassId} {ad : Nat → Nat} {L : List Nat} {K len : Nat → Nat} (C0 : zCx p s m c meth args cX7_may 8 wsX7_may RX7 (some .boolean) D cy ad L K) (N : Nat) {x0 : Nat} {x1 : Int32} {x2 : Int32} {x3 : Int32} {x4 : Int32} {M : ZM} {r : Int32} (h : f_X7_may_35 N K len x0 x1 x2 x3 x4 M = some r) {H : Heap} {locs : List Loc} {ls : Array Slot} (hW : zWd D cy ad L K len M H) (hS : va_S (zA ad L s.heap.size) s.heap H locs) (hl : lv_has ls 8 [(0, .ref (ad x0)), (1, .int x1), (2, .int x2), (3, .int x3), (4, .int x4)]) : W p l e (headSpec wsX7_may ({ frames := 2, cells := 0, slots := 0, locals := 45 } : Room)).room s m args below meth c H locs 0 0 (MQ below (zQi D cy ad L K len r M s.heap.size) args s 0 0 (zA ad L s.heap.size)) (F0 m 35 ls []) := by
  obtain ⟨hx, hb, hr, hml, hown, hts, hlocks, hK, hL, hE⟩ := id C0
  unfold f_X7_may_35 at h
  refine lv_iconst (v := 0) hx hb dX7_may_35 (by decide) ?_
  exact t_X7_may_36 C0 N  h hW hS (lv_sub hl [0, 1, 2, 3, 4] rfl)
def f_X7_may_0 (N : Nat) (K len : Nat → Nat) (x0 : Nat) (x1 : Int32) (x2 : Int32) (x3 : Int32) (M : ZM) : Option (Int32) :=
zg (K x0 == 8) (
(zR M x0 18).bind fun b2 => (
zg (zok K len b2 11 x2) (
(if (zI M b2 x2.toNatClampNeg) = x2 then
f_X7_may_35 N K len  x0 x1 x2 x3 (zI M b2 x2.toNatClampNeg) M
else
(zR M x0 3).bind fun b6 => (
(f_X7_arc N x0 x1 (zI M b2 x2.toNatClampNeg) x2).bind fun q8 => (
zg (zok K len b6 11 q8) (
(if (zI M b6 q8.toNatClampNeg) = (2 : Int32) then
f_X7_may_35 N K len  x0 x1 x2 x3 (zI M b2 x2.toNatClampNeg) M
else
f_X7_may_36 N K len  x0 x1 x2 x3 (zI M b2 x2.toNatClampNeg) (1 : Int32) M))))))))
set_option maxRecDepth 100000 in
set_option maxHeartbeats 4000000 in
theorem t_X7_may_0 {p : Program} {l : Launch} {e : Env} {s : State} {m : MethodId} {args : Array Value} {below : List Frame} {meth : Method} {c : Code} {D : va_G} {cy : Nat → ClassId} {ad : Nat → Nat} {L : List Nat} {K len : Nat → Nat} (C0 : zCx p s m c meth args cX7_may 8 wsX7_may RX7 (some .boolean) D cy ad L K) (N : Nat) {x0 : Nat} {x1 : Int32} {x2 : Int32} {x3 : Int32} {M : ZM} {r : Int32} (h : f_X7_may_0 N K len x0 x1 x2 x3 M = some r) {H : Heap} {locs : List Loc} {ls : Array Slot} (hW : zWd D cy ad L K len M H) (hS : va_S (zA ad L s.heap.size) s.heap H locs) (hl : lv_has ls 8 [(0, .ref (ad x0)), (1, .int x1), (2, .int x2), (3, .int x3)]) : W p l e (headSpec wsX7_may ({ frames := 2, cells := 0, slots := 0, locals := 45 } : Room)).room s m args below meth c H locs 0 0 (MQ below (zQi D cy ad L K len r M s.heap.size) args s 0 0 (zA ad L s.heap.size)) (F0 m 0 ls []) := by
  obtain ⟨hx, hb, hr, hml, hown, hts, hlocks, hK, hL, hE⟩ := id C0
  have hinX7 : ∀ w ∈ wsX70, w ∈ wsX7_may := by decide +kernel
  unfold f_X7_may_0 at h
  refine lv_aload_n hx hb dX7_may_0 rfl (lv_at hl 0 rfl) ?_
  obtain ⟨g1, h⟩ := zg_some h
  obtain ⟨b2, e3, h⟩ := zb_some h
  refine z_get (own := RX7) (C := RX7) (T := TX7) (N := 20) (ci := 7) hx hb hts hinX7 hown hK hL hW 18 (zK_of g1) rfl (by decide) (by decide) rfl (hts (.fieldLink RX7 52 "ArcLightModel" "head" "[I") (by decide +kernel)) (v := .ref (ad b2)) (zhvR e3 rfl) dX7_may_1 ?_
  refine lv_iload_n hx hb dX7_may_4 rfl (lv_at hl 2 rfl) ?_
  obtain ⟨g4, h⟩ := zg_some h
  refine z_iald hx hb hK hL hW g4 dX7_may_5 ?_
  refine lv_istore (lv' := [(4, .int (zI M b2 x2.toNatClampNeg)), (0, .ref (ad x0)), (1, .int x1), (2, .int x2), (3, .int x3)]) hx hb dX7_may_6 hl (by decide) rfl (fun ls hl => ?_)
  refine lv_iload hx hb dX7_may_8 (lv_at hl 0 rfl) ?_
  refine lv_iload_n hx hb dX7_may_10 rfl (lv_at hl 3 rfl) ?_
  refine lv_icmp_eq (tgt := 35) hx hb dX7_may_11 (by decide) (fun c5 => ?_) (fun c5 => ?_)
  · have h := zip c5 h
    exact t_X7_may_35 C0 N  h hW hS (lv_sub hl [1, 2, 3, 4, 0] rfl)
  · have h := zin c5 h
    refine lv_aload_n hx hb dX7_may_14 rfl (lv_at hl 1 rfl) ?_
    obtain ⟨b6, e7, h⟩ := zb_some h
    refine z_get (own := RX7) (C := RX7) (T := TX7) (N := 20) (ci := 7) hx hb hts hinX7 hown hK hL hW 3 (zK_of g1) rfl (by decide) (by decide) rfl (hts (.fieldLink RX7 16 "ArcLightModel" "mark" "[I") (by decide +kernel)) (v := .ref (ad b6)) (zhvR e7 rfl) dX7_may_15 ?_
    refine lv_aload_n hx hb dX7_may_18 rfl (lv_at hl 1 rfl) ?_
    refine lv_iload_n hx hb dX7_may_19 rfl (lv_at hl 2 rfl) ?_
    refine lv_iload hx hb dX7_may_20 (lv_at hl 0 rfl) ?_
    refine lv_iload_n hx hb dX7_may_22 rfl (lv_at hl 3 rfl) ?_
    obtain ⟨q8, e9, h⟩ := zb_some h
    refine z_calli hS (va_runV (As := [.int x1, .int (zI M b2 x2.toNatClampNeg), .int x2]) (rest := [.ref (ad b6)]) ⟨hx, hb, hml, hown, hts⟩ (m_X7_arc l (M := M) hL N e9 H.size) (cwV 3 hts gX7_may_X7_arc rfl rfl rfl (by decide +kernel) ⟨Nat.le_of_ble_eq_true rfl, Nat.le_of_ble_eq_true rfl⟩) (z_preV (q := (RX7, TX7, 20)) hK hL hE hW hS (zK_of g1) (by decide) rfl [.int x1, .int (zI M b2 x2.toNatClampNeg), .int x2]) rfl rfl hl.1 rfl (lv_room (Nat.le_of_ble_eq_true rfl)) dX7_may_23 ⟨Nat.le_of_ble_eq_true rfl, Nat.le_of_ble_eq_true rfl⟩) (fun H locs hW hS => ?_)
    obtain ⟨g10, h⟩ := zg_some h
    refine z_iald hx hb hK hL hW g10 dX7_may_26 ?_
    refine lv_iconst (v := 2) hx hb dX7_may_27 (by decide) ?_
    refine lv_icmp_eq (tgt := 35) hx hb dX7_may_28 (by decide) (fun c11 => ?_) (fun c11 => ?_)
    · have h := zip c11 h
      exact t_X7_may_35 C0 N  h hW hS (lv_sub hl [1, 2, 3, 4, 0] rfl)
    · have h := zin c11 h
      refine lv_iconst (v := 1) hx hb dX7_may_31 (by decide) ?_
      refine lv_goto (tgt := 36) hx hb dX7_may_32 (by decide) ?_
      exact t_X7_may_36 C0 N  h hW hS (lv_sub hl [1, 2, 3, 4, 0] rfl)
def f_X7_may (N : Nat) (K len : Nat → Nat) (a0 : Nat) (a1 : Int32) (a2 : Int32) (a3 : Int32) (M : ZM) : Option (Int32) := f_X7_may_0 N K len a0 a1 a2 a3 M
set_option maxRecDepth 100000 in
set_option maxHeartbeats 4000000 in
theorem m_X7_may (l : Launch) {D : va_G} {cy : Nat → ClassId} {ad : Nat → Nat} {L : List Nat} {K len : Nat → Nat} (hL : zSh ad L K) (N : Nat) {a0 : Nat} {a1 : Int32} {a2 : Int32} {a3 : Int32} {M : ZM} {r : Int32} (h : f_X7_may N K len a0 a1 a2 a3 M = some r) (sz : Nat) : Met l yX7_may wsX7_may ({ frames := 2, cells := 0, slots := 0, locals := 45 } : Room) (zPre D cy ad L K len sz [.ref (ad a0), .int a1, .int a2, .int a3] M) (zQi D cy ad L K len r M sz) 0 0 (zA ad L sz) :=
  z_entry (Qf := fun sz => zQi D cy ad L K len r M sz) (av := [.ref (ad a0), .int a1, .int a2, .int a3]) (by decide) rfl rfl hL (Nat.le_of_ble_eq_true rfl) (fun p e s m args below meth c C0 H locs ls hW hS hl => t_X7_may_0 C0 N h hW hS (lv_sub hl [0, 1, 2, 3] rfl))
def f_X7_keyOf_7 (N : Nat) (K len : Nat → Nat) : Nat → Nat → Int32 → Int32 → Int32 → Int32 → ZM → Option (Int64)
  | 0, _, _, _, _, _, _ => none
  | n + 1, x0, x1, x2, x3, x4, M =>
    zg (K x0 == 8) (
    (zR M x0 1).bind fun b2 => (
    zg (zok K len b2 11 x1) (
    (if (zI M b2 x1.toNatClampNeg) < x4 then
    some ((((100000 : Int32) - x2).toInt64 <<< ((18 : Int32).toInt64 &&& 63)) + x3.toInt64)
    else
    (zR M x0 18).bind fun b6 => (
    zg (zok K len b6 11 x4) (
    (f_X7_scoreOf N K len x0 x1 (zI M b6 x4.toNatClampNeg) x4 M).bind fun q9 => (
    f_X7_keyOf_7 N K len  n x0 x1 (x2 + q9) (((8 : Int32) * x3) + (zI M b6 x4.toNatClampNeg)) (x4 + 1) M)))))))
set_option maxRecDepth 100000 in
set_option maxHeartbeats 4000000 in
theorem t_X7_keyOf_7 {p : Program} {l : Launch} {e : Env} {s : State} {m : MethodId} {args : Array Value} {below : List Frame} {meth : Method} {c : Code} {D : va_G} {cy : Nat → ClassId} {ad : Nat → Nat} {L : List Nat} {K len : Nat → Nat} (C0 : zCx p s m c meth args cX7_keyOf 5 wsX7_keyOf RX7 (some .long) D cy ad L K) (N : Nat) {M : ZM} {r : Int64} : ∀ (n : Nat) {x0 : Nat} {x1 : Int32} {x2 : Int32} {x3 : Int32} {x4 : Int32}, f_X7_keyOf_7 N K len n x0 x1 x2 x3 x4 M = some r → ∀ {H : Heap} {locs : List Loc} {ls : Array Slot}, zWd D cy ad L K len M H → va_S (zA ad L s.heap.size) s.heap H locs → lv_has ls 5 [(0, .ref (ad x0)), (1, .int x1), (2, .int x2), (3, .int x3), (4, .int x4)] → W p l e (headSpec wsX7_keyOf ({ frames := 2, cells := 0, slots := 0, locals := 46 } : Room)).room s m args below meth c H locs 0 0 (MQ below (zQl D cy ad L K len r M s.heap.size) args s 0 0 (zA ad L s.heap.size)) (F0 m 7 ls []) := by
  obtain ⟨hx, hb, hr, hml, hown, hts, hlocks, hK, hL, hE⟩ := id C0
  have hinX7 : ∀ w ∈ wsX70, w ∈ wsX7_keyOf := by decide +kernel
  intro n
  induction n with
  | zero =>
    intro x0 x1 x2 x3 x4 h
    cases (show (none : Option (Int64)) = some r from h)
  | succ n ih =>
    intro x0 x1 x2 x3 x4 h H locs ls hW hS hl
    rw [f_X7_keyOf_7] at h
    refine lv_iload hx hb dX7_keyOf_7 (lv_at hl 4 rfl) ?_
    refine lv_aload_n hx hb dX7_keyOf_9 rfl (lv_at hl 0 rfl) ?_
    obtain ⟨g1, h⟩ := zg_some h
    obtain ⟨b2, e3, h⟩ := zb_some h
    refine z_get (own := RX7) (C := RX7) (T := TX7) (N := 20) (ci := 7) hx hb hts hinX7 hown hK hL hW 1 (zK_of g1) rfl (by decide) (by decide) rfl (hts (.fieldLink RX7 7 "ArcLightModel" "words" "[I") (by decide +kernel)) (v := .ref (ad b2)) (zhvR e3 rfl) dX7_keyOf_10 ?_
    refine lv_iload_n hx hb dX7_keyOf_13 rfl (lv_at hl 1 rfl) ?_
    obtain ⟨g4, h⟩ := zg_some h
    refine z_iald hx hb hK hL hW g4 dX7_keyOf_14 ?_
    refine lv_icmp_gt (tgt := 54) hx hb dX7_keyOf_15 (by decide) (fun c5 => ?_) (fun c5 => ?_)
    · have h := zip c5 h
      refine lv_ldc hx hb hown (hts (.constant RX7 120 (100000)) (by decide +kernel)) dX7_keyOf_54 ?_
      refine lv_iload_n hx hb dX7_keyOf_56 rfl (lv_at hl 2 rfl) ?_
      refine lv_isub hx hb dX7_keyOf_57 ?_
      refine lv_i2l hx hb dX7_keyOf_58 rfl ?_
      refine lv_bipush (v := 18) hx hb dX7_keyOf_59 (by decide) ?_
      refine lv_lshl hx hb dX7_keyOf_61 rfl ?_
      refine lv_iload_n hx hb dX7_keyOf_62 rfl (lv_at hl 3 rfl) ?_
      refine lv_i2l hx hb dX7_keyOf_63 rfl ?_
      refine lv_ladd hx hb dX7_keyOf_64 ?_
      exact z_lret hx hb hr hlocks hW hS (Option.some.inj h) rfl dX7_keyOf_65
    · have h := zin c5 h
      refine lv_iload_n hx hb dX7_keyOf_18 rfl (lv_at hl 2 rfl) ?_
      refine lv_aload_n hx hb dX7_keyOf_19 rfl (lv_at hl 0 rfl) ?_
      refine lv_iload_n hx hb dX7_keyOf_20 rfl (lv_at hl 1 rfl) ?_
      refine lv_aload_n hx hb dX7_keyOf_21 rfl (lv_at hl 0 rfl) ?_
      obtain ⟨b6, e7, h⟩ := zb_some h
      refine z_get (own := RX7) (C := RX7) (T := TX7) (N := 20) (ci := 7) hx hb hts hinX7 hown hK hL hW 18 (zK_of g1) rfl (by decide) (by decide) rfl (hts (.fieldLink RX7 52 "ArcLightModel" "head" "[I") (by decide +kernel)) (v := .ref (ad b6)) (zhvR e7 rfl) dX7_keyOf_22 ?_
      refine lv_iload hx hb dX7_keyOf_25 (lv_at hl 4 rfl) ?_
      obtain ⟨g8, h⟩ := zg_some h
      refine z_iald hx hb hK hL hW g8 dX7_keyOf_27 ?_
      refine lv_iload hx hb dX7_keyOf_28 (lv_at hl 4 rfl) ?_
      obtain ⟨q9, e10, h⟩ := zb_some h
      refine z_calli hS (va_runV (As := [.int x1, .int (zI M b6 x4.toNatClampNeg), .int x4]) (rest := [.int x2]) ⟨hx, hb, hml, hown, hts⟩ (m_X7_scoreOf l hL N e10 H.size) (cwV 3 hts gX7_keyOf_X7_scoreOf rfl rfl rfl (by decide +kernel) ⟨Nat.le_of_ble_eq_true rfl, Nat.le_of_ble_eq_true rfl⟩) (z_preV (q := (RX7, TX7, 20)) hK hL hE hW hS (zK_of g1) (by decide) rfl [.int x1, .int (zI M b6 x4.toNatClampNeg), .int x4]) rfl rfl hl.1 rfl (lv_room (Nat.le_of_ble_eq_true rfl)) dX7_keyOf_30 ⟨Nat.le_of_ble_eq_true rfl, Nat.le_of_ble_eq_true rfl⟩) (fun H locs hW hS => ?_)
      refine lv_iadd hx hb dX7_keyOf_33 ?_
      refine lv_istore_n (lv' := [(2, .int (x2 + q9)), (0, .ref (ad x0)), (1, .int x1), (3, .int x3), (4, .int x4)]) hx hb dX7_keyOf_34 rfl hl (by decide) rfl (fun ls hl => ?_)
      refine lv_bipush (v := 8) hx hb dX7_keyOf_35 (by decide) ?_
      refine lv_iload_n hx hb dX7_keyOf_37 rfl (lv_at hl 3 rfl) ?_
      refine lv_imul hx hb dX7_keyOf_38 ?_
      refine lv_aload_n hx hb dX7_keyOf_39 rfl (lv_at hl 1 rfl) ?_
      refine z_get (own := RX7) (C := RX7) (T := TX7) (N := 20) (ci := 7) hx hb hts hinX7 hown hK hL hW 18 (zK_of g1) rfl (by decide) (by decide) rfl (hts (.fieldLink RX7 52 "ArcLightModel" "head" "[I") (by decide +kernel)) (v := .ref (ad b6)) (zhvR e7 rfl) dX7_keyOf_40 ?_
      refine lv_iload hx hb dX7_keyOf_43 (lv_at hl 4 rfl) ?_
      refine z_iald hx hb hK hL hW g8 dX7_keyOf_45 ?_
      refine lv_iadd hx hb dX7_keyOf_46 ?_
      refine lv_istore_n (lv' := [(3, .int (((8 : Int32) * x3) + (zI M b6 x4.toNatClampNeg))), (2, .int (x2 + q9)), (0, .ref (ad x0)), (1, .int x1), (4, .int x4)]) hx hb dX7_keyOf_47 rfl hl (by decide) rfl (fun ls hl => ?_)
      refine lv_iinc (k := 4) (v := (x4 + 1)) (lv' := [(4, .int (x4 + 1)), (3, .int (((8 : Int32) * x3) + (zI M b6 x4.toNatClampNeg))), (2, .int (x2 + q9)), (0, .ref (ad x0)), (1, .int x1)]) hx hb dX7_keyOf_48 hl rfl (by rw [show Int32.ofInt 1 = (1 : Int32) from by decide]) (by decide) rfl (fun ls hl => ?_)
      refine lv_goto (tgt := 7) hx hb dX7_keyOf_51 (by decide) ?_
      exact ih h hW hS (lv_sub hl [3, 4, 2, 1, 0] rfl)
def f_X7_keyOf_0 (N : Nat) (K len : Nat → Nat) (x0 : Nat) (x1 : Int32) (M : ZM) : Option (Int64) :=
f_X7_keyOf_7 N K len  N x0 x1 (0 : Int32) (0 : Int32) (1 : Int32) M
set_option maxRecDepth 100000 in
set_option maxHeartbeats 4000000 in
theorem t_X7_keyOf_0 {p : Program} {l : Launch} {e : Env} {s : State} {m : MethodId} {args : Array Value} {below : List Frame} {meth : Method} {c : Code} {D : va_G} {cy : Nat → ClassId} {ad : Nat → Nat} {L : List Nat} {K len : Nat → Nat} (C0 : zCx p s m c meth args cX7_keyOf 5 wsX7_keyOf RX7 (some .long) D cy ad L K) (N : Nat) {x0 : Nat} {x1 : Int32} {M : ZM} {r : Int64} (h : f_X7_keyOf_0 N K len x0 x1 M = some r) {H : Heap} {locs : List Loc} {ls : Array Slot} (hW : zWd D cy ad L K len M H) (hS : va_S (zA ad L s.heap.size) s.heap H locs) (hl : lv_has ls 5 [(0, .ref (ad x0)), (1, .int x1)]) : W p l e (headSpec wsX7_keyOf ({ frames := 2, cells := 0, slots := 0, locals := 46 } : Room)).room s m args below meth c H locs 0 0 (MQ below (zQl D cy ad L K len r M s.heap.size) args s 0 0 (zA ad L s.heap.size)) (F0 m 0 ls []) := by
  obtain ⟨hx, hb, hr, hml, hown, hts, hlocks, hK, hL, hE⟩ := id C0
  unfold f_X7_keyOf_0 at h
  refine lv_iconst (v := 0) hx hb dX7_keyOf_0 (by decide) ?_
  refine lv_istore_n (lv' := [(2, .int (0 : Int32)), (0, .ref (ad x0)), (1, .int x1)]) hx hb dX7_keyOf_1 rfl hl (by decide) rfl (fun ls hl => ?_)
  refine lv_iconst (v := 0) hx hb dX7_keyOf_2 (by decide) ?_
  refine lv_istore_n (lv' := [(3, .int (0 : Int32)), (2, .int (0 : Int32)), (0, .ref (ad x0)), (1, .int x1)]) hx hb dX7_keyOf_3 rfl hl (by decide) rfl (fun ls hl => ?_)
  refine lv_iconst (v := 1) hx hb dX7_keyOf_4 (by decide) ?_
  refine lv_istore (lv' := [(4, .int (1 : Int32)), (3, .int (0 : Int32)), (2, .int (0 : Int32)), (0, .ref (ad x0)), (1, .int x1)]) hx hb dX7_keyOf_5 hl (by decide) rfl (fun ls hl => ?_)
  exact t_X7_keyOf_7 C0 N  N h hW hS (lv_sub hl [3, 4, 2, 1, 0] rfl)
def f_X7_keyOf (N : Nat) (K len : Nat → Nat) (a0 : Nat) (a1 : Int32) (M : ZM) : Option (Int64) := f_X7_keyOf_0 N K len a0 a1 M
set_option maxRecDepth 100000 in
set_option maxHeartbeats 4000000 in
theorem m_X7_keyOf (l : Launch) {D : va_G} {cy : Nat → ClassId} {ad : Nat → Nat} {L : List Nat} {K len : Nat → Nat} (hL : zSh ad L K) (N : Nat) {a0 : Nat} {a1 : Int32} {M : ZM} {r : Int64} (h : f_X7_keyOf N K len a0 a1 M = some r) (sz : Nat) : Met l yX7_keyOf wsX7_keyOf ({ frames := 2, cells := 0, slots := 0, locals := 46 } : Room) (zPre D cy ad L K len sz [.ref (ad a0), .int a1] M) (zQl D cy ad L K len r M sz) 0 0 (zA ad L sz) :=
  z_entry (Qf := fun sz => zQl D cy ad L K len r M sz) (av := [.ref (ad a0), .int a1]) (by decide) rfl rfl hL (Nat.le_of_ble_eq_true rfl) (fun p e s m args below meth c C0 H locs ls hW hS hl => t_X7_keyOf_0 C0 N h hW hS (lv_sub hl [0, 1] rfl))
def f_X7_walks_170 (N : Nat) (K len : Nat → Nat) (kh43 : Nat → Int32 → Int32 → Int32 → Int32 → Int32 → Int64 → Int32 → ZM → Option (ZM)) (x0 : Nat) (x1 : Int32) (x2 : Int32) (x3 : Int32) (x4 : Int32) (x5 : Int32) (x6 : Int64) (x8 : Int32) (s0 : Int32) (s1 : Nat) (M : ZM) : Option (ZM) :=
zg (zok K len s1 11 s0) (
zl (zsI M s1 s0.toNatClampNeg (-1 : Int32)) fun M2 => (
kh43 x0 x1 x2 x3 x4 x5 x6 x8 M2))
set_option maxRecDepth 100000 in
set_option maxHeartbeats 4000000 in
theorem t_X7_walks_170 {p : Program} {l : Launch} {e : Env} {s : State} {m : MethodId} {args : Array Value} {below : List Frame} {meth : Method} {c : Code} {D : va_G} {cy : Nat → ClassId} {ad : Nat → Nat} {L : List Nat} {K len : Nat → Nat} (C0 : zCx p s m c meth args cX7_walks 11 wsX7_walks RX7 none D cy ad L K) (N : Nat) {kh43 : Nat → Int32 → Int32 → Int32 → Int32 → Int32 → Int64 → Int32 → ZM → Option (ZM)} {x0 : Nat} {x1 : Int32} {x2 : Int32} {x3 : Int32} {x4 : Int32} {x5 : Int32} {x6 : Int64} {x8 : Int32} {s0 : Int32} {s1 : Nat} {M : ZM} {Mr : ZM} (hk43 : ∀ {y0 : Nat} {y1 : Int32} {y2 : Int32} {y3 : Int32} {y4 : Int32} {y5 : Int32} {y6 : Int64} {y8 : Int32} {M : ZM}, kh43 y0 y1 y2 y3 y4 y5 y6 y8 M = some Mr → ∀ {H : Heap} {locs : List Loc} {ls : Array Slot}, zWd D cy ad L K len M H → va_S (zA ad L s.heap.size) s.heap H locs → lv_has ls 11 [(0, .ref (ad y0)), (1, .int y1), (2, .int y2), (3, .int y3), (4, .int y4), (5, .int y5), (6, .long y6), (8, .int y8)] → W p l e (headSpec wsX7_walks ({ frames := 3, cells := 0, slots := 0, locals := 72 } : Room)).room s m args below meth c H locs 0 0 (MQ below (zQv D cy ad L K len Mr s.heap.size) args s 0 0 (zA ad L s.heap.size)) (F0 m 43 ls [])) (h : f_X7_walks_170 N K len kh43 x0 x1 x2 x3 x4 x5 x6 x8 s0 s1 M = some Mr) {H : Heap} {locs : List Loc} {ls : Array Slot} (hW : zWd D cy ad L K len M H) (hS : va_S (zA ad L s.heap.size) s.heap H locs) (hl : lv_has ls 11 [(0, .ref (ad x0)), (1, .int x1), (2, .int x2), (3, .int x3), (4, .int x4), (5, .int x5), (6, .long x6), (8, .int x8)]) : W p l e (headSpec wsX7_walks ({ frames := 3, cells := 0, slots := 0, locals := 72 } : Room)).room s m args below meth c H locs 0 0 (MQ below (zQv D cy ad L K len Mr s.heap.size) args s 0 0 (zA ad L s.heap.size)) (F0 m 170 ls [.int s0, .ref (ad s1)]) := by
  obtain ⟨hx, hb, hr, hml, hown, hts, hlocks, hK, hL, hE⟩ := id C0
  unfold f_X7_walks_170 at h
  refine lv_iconst (v := -1) hx hb dX7_walks_170 (by decide) ?_
  obtain ⟨g1, h⟩ := zg_some h
  refine z_iast hx hb hK hL hW hS g1 dX7_walks_171 (fun H locs hW hS => ?_)
  obtain ⟨M2, eM3, h⟩ := zl_some h
  rw [← eM3] at hW
  refine lv_goto (tgt := 43) hx hb dX7_walks_172 (by decide) ?_
  exact hk43 h hW hS (lv_sub hl [0, 1, 2, 3, 4, 5, 6, 7] rfl)
def f_X7_walks_94 (N : Nat) (K len : Nat → Nat) (kh43 : Nat → Int32 → Int32 → Int32 → Int32 → Int32 → Int64 → Int32 → ZM → Option (ZM)) (x0 : Nat) (x1 : Int32) (x2 : Int32) (x3 : Int32) (x4 : Int32) (x5 : Int32) (x6 : Int64) (x8 : Int32) (M : ZM) : Option (ZM) :=
zg (K x0 == 8) (
zl (zsI M x0 14 ((zI M x0 14) + (1 : Int32))) fun M2 => (
kh43 x0 x1 x2 x3 x4 x5 x6 (x8 + (-1)) M2))
set_option maxRecDepth 100000 in
set_option maxHeartbeats 4000000 in
theorem t_X7_walks_94 {p : Program} {l : Launch} {e : Env} {s : State} {m : MethodId} {args : Array Value} {below : List Frame} {meth : Method} {c : Code} {D : va_G} {cy : Nat → ClassId} {ad : Nat → Nat} {L : List Nat} {K len : Nat → Nat} (C0 : zCx p s m c meth args cX7_walks 11 wsX7_walks RX7 none D cy ad L K) (N : Nat) {kh43 : Nat → Int32 → Int32 → Int32 → Int32 → Int32 → Int64 → Int32 → ZM → Option (ZM)} {x0 : Nat} {x1 : Int32} {x2 : Int32} {x3 : Int32} {x4 : Int32} {x5 : Int32} {x6 : Int64} {x8 : Int32} {M : ZM} {Mr : ZM} (hk43 : ∀ {y0 : Nat} {y1 : Int32} {y2 : Int32} {y3 : Int32} {y4 : Int32} {y5 : Int32} {y6 : Int64} {y8 : Int32} {M : ZM}, kh43 y0 y1 y2 y3 y4 y5 y6 y8 M = some Mr → ∀ {H : Heap} {locs : List Loc} {ls : Array Slot}, zWd D cy ad L K len M H → va_S (zA ad L s.heap.size) s.heap H locs → lv_has ls 11 [(0, .ref (ad y0)), (1, .int y1), (2, .int y2), (3, .int y3), (4, .int y4), (5, .int y5), (6, .long y6), (8, .int y8)] → W p l e (headSpec wsX7_walks ({ frames := 3, cells := 0, slots := 0, locals := 72 } : Room)).room s m args below meth c H locs 0 0 (MQ below (zQv D cy ad L K len Mr s.heap.size) args s 0 0 (zA ad L s.heap.size)) (F0 m 43 ls [])) (h : f_X7_walks_94 N K len kh43 x0 x1 x2 x3 x4 x5 x6 x8 M = some Mr) {H : Heap} {locs : List Loc} {ls : Array Slot} (hW : zWd D cy ad L K len M H) (hS : va_S (zA ad L s.heap.size) s.heap H locs) (hl : lv_has ls 11 [(0, .ref (ad x0)), (1, .int x1), (2, .int x2), (3, .int x3), (4, .int x4), (5, .int x5), (6, .long x6), (8, .int x8)]) : W p l e (headSpec wsX7_walks ({ frames := 3, cells := 0, slots := 0, locals := 72 } : Room)).room s m args below meth c H locs 0 0 (MQ below (zQv D cy ad L K len Mr s.heap.size) args s 0 0 (zA ad L s.heap.size)) (F0 m 94 ls []) := by
  obtain ⟨hx, hb, hr, hml, hown, hts, hlocks, hK, hL, hE⟩ := id C0
  have hinX7 : ∀ w ∈ wsX70, w ∈ wsX7_walks := by decide +kernel
  unfold f_X7_walks_94 at h
  refine lv_aload_n hx hb dX7_walks_94 rfl (lv_at hl 0 rfl) ?_
  refine lv_dup hx hb dX7_walks_95 rfl ?_
  obtain ⟨g1, h⟩ := zg_some h
  refine z_get (own := RX7) (C := RX7) (T := TX7) (N := 20) (ci := 7) hx hb hts hinX7 hown hK hL hW 14 (zK_of g1) rfl (by decide) (by decide) rfl (hts (.fieldLink RX7 123 "ArcLightModel" "many" "I") (by decide +kernel)) (v := .int (zI M x0 14)) rfl dX7_walks_96 ?_
  refine lv_iconst (v := 1) hx hb dX7_walks_99 (by decide) ?_
  refine lv_iadd hx hb dX7_walks_100 ?_
  refine z_put (own := RX7) (C := RX7) (T := TX7) (N := 20) (ci := 7) (v := .int ((zI M x0 14) + (1 : Int32))) (M' := zsI M x0 14 ((zI M x0 14) + (1 : Int32))) hx hb hts hinX7 tyX7 tyX7_ok nmX7 hown hK hL hW hS 14 (zK_of g1) rfl (by decide) (by decide) rfl (hts (.fieldLink RX7 123 "ArcLightModel" "many" "I") (by decide +kernel)) rfl (ty := .int) (by decide +kernel) rfl rfl (Nat.le_of_ble_eq_true rfl) dX7_walks_101 (zM_I (zK_of g1) (by decide) rfl) (fun H locs hW hS => ?_)
  obtain ⟨M2, eM3, h⟩ := zl_some h
  rw [← eM3] at hW
  refine lv_iinc (k := 7) (v := (x8 + (-1))) (lv' := [(8, .int (x8 + (-1))), (0, .ref (ad x0)), (1, .int x1), (2, .int x2), (3, .int x3), (4, .int x4), (5, .int x5), (6, .long x6)]) hx hb dX7_walks_104 hl rfl (by rw [show Int32.ofInt (-1) = (-1 : Int32) from by decide]) (by decide) rfl (fun ls hl => ?_)
  refine lv_goto (tgt := 43) hx hb dX7_walks_107 (by decide) ?_
  exact hk43 h hW hS (lv_sub hl [1, 2, 3, 4, 5, 6, 7, 0] rfl)
def f_X7_walks_77 (N : Nat) (K len : Nat → Nat) (kh43 : Nat → Int32 → Int32 → Int32 → Int32 → Int32 → Int64 → Int32 → ZM → Option (ZM)) (x0 : Nat) (x1 : Int32) (x2 : Int32) (x3 : Int32) (x4 : Int32) (x5 : Int32) (x8 : Int32) (x9 : Int64) (s0 : Int64) (M : ZM) : Option (ZM) :=
(if x3 = 0 then
f_X7_walks_94 N K len kh43 x0 x1 x2 x3 x4 x5 s0 x8 M
else
zg (K x0 == 8) (
(zR M x0 12).bind fun b3 => (
zg (zok K len b3 12 (zI M x0 14)) (
zl (zsJ M b3 (zI M x0 14).toNatClampNeg x9) fun M6 => (
f_X7_walks_94 N K len kh43 x0 x1 x2 x3 x4 x5 s0 x8 M6)))))
set_option maxRecDepth 100000 in
set_option maxHeartbeats 4000000 in
theorem t_X7_walks_77 {p : Program} {l : Launch} {e : Env} {s : State} {m : MethodId} {args : Array Value} {below : List Frame} {meth : Method} {c : Code} {D : va_G} {cy : Nat → ClassId} {ad : Nat → Nat} {L : List Nat} {K len : Nat → Nat} (C0 : zCx p s m c meth args cX7_walks 11 wsX7_walks RX7 none D cy ad L K) (N : Nat) {kh43 : Nat → Int32 → Int32 → Int32 → Int32 → Int32 → Int64 → Int32 → ZM → Option (ZM)} {x0 : Nat} {x1 : Int32} {x2 : Int32} {x3 : Int32} {x4 : Int32} {x5 : Int32} {x8 : Int32} {x9 : Int64} {s0 : Int64} {M : ZM} {Mr : ZM} (hk43 : ∀ {y0 : Nat} {y1 : Int32} {y2 : Int32} {y3 : Int32} {y4 : Int32} {y5 : Int32} {y6 : Int64} {y8 : Int32} {M : ZM}, kh43 y0 y1 y2 y3 y4 y5 y6 y8 M = some Mr → ∀ {H : Heap} {locs : List Loc} {ls : Array Slot}, zWd D cy ad L K len M H → va_S (zA ad L s.heap.size) s.heap H locs → lv_has ls 11 [(0, .ref (ad y0)), (1, .int y1), (2, .int y2), (3, .int y3), (4, .int y4), (5, .int y5), (6, .long y6), (8, .int y8)] → W p l e (headSpec wsX7_walks ({ frames := 3, cells := 0, slots := 0, locals := 72 } : Room)).room s m args below meth c H locs 0 0 (MQ below (zQv D cy ad L K len Mr s.heap.size) args s 0 0 (zA ad L s.heap.size)) (F0 m 43 ls [])) (h : f_X7_walks_77 N K len kh43 x0 x1 x2 x3 x4 x5 x8 x9 s0 M = some Mr) {H : Heap} {locs : List Loc} {ls : Array Slot} (hW : zWd D cy ad L K len M H) (hS : va_S (zA ad L s.heap.size) s.heap H locs) (hl : lv_has ls 11 [(0, .ref (ad x0)), (1, .int x1), (2, .int x2), (3, .int x3), (4, .int x4), (5, .int x5), (8, .int x8), (9, .long x9)]) : W p l e (headSpec wsX7_walks ({ frames := 3, cells := 0, slots := 0, locals := 72 } : Room)).room s m args below meth c H locs 0 0 (MQ below (zQv D cy ad L K len Mr s.heap.size) args s 0 0 (zA ad L s.heap.size)) (F0 m 77 ls [.long s0]) := by
  obtain ⟨hx, hb, hr, hml, hown, hts, hlocks, hK, hL, hE⟩ := id C0
  have hinX7 : ∀ w ∈ wsX70, w ∈ wsX7_walks := by decide +kernel
  unfold f_X7_walks_77 at h
  refine lv_lstore (lv' := [(6, .long s0), (0, .ref (ad x0)), (1, .int x1), (2, .int x2), (3, .int x3), (4, .int x4), (5, .int x5), (8, .int x8), (9, .long x9)]) hx hb dX7_walks_77 hl (by decide) rfl (fun ls hl => ?_)
  refine lv_iload_n hx hb dX7_walks_79 rfl (lv_at hl 4 rfl) ?_
  refine lv_if_eq (tgt := 94) hx hb dX7_walks_80 (by decide) (fun c1 => ?_) (fun c1 => ?_)
  · have h := zip c1 h
    exact t_X7_walks_94 C0 N hk43 h hW hS (lv_sub hl [1, 2, 3, 4, 5, 6, 0, 7] rfl)
  · have h := zin c1 h
    refine lv_aload_n hx hb dX7_walks_83 rfl (lv_at hl 1 rfl) ?_
    obtain ⟨g2, h⟩ := zg_some h
    obtain ⟨b3, e4, h⟩ := zb_some h
    refine z_get (own := RX7) (C := RX7) (T := TX7) (N := 20) (ci := 7) hx hb hts hinX7 hown hK hL hW 12 (zK_of g2) rfl (by decide) (by decide) rfl (hts (.fieldLink RX7 35 "ArcLightModel" "tree" "[J") (by decide +kernel)) (v := .ref (ad b3)) (zhvR e4 rfl) dX7_walks_84 ?_
    refine lv_aload_n hx hb dX7_walks_87 rfl (lv_at hl 1 rfl) ?_
    refine z_get (own := RX7) (C := RX7) (T := TX7) (N := 20) (ci := 7) hx hb hts hinX7 hown hK hL hW 14 (zK_of g2) rfl (by decide) (by decide) rfl (hts (.fieldLink RX7 123 "ArcLightModel" "many" "I") (by decide +kernel)) (v := .int (zI M x0 14)) rfl dX7_walks_88 ?_
    refine lv_lload hx hb dX7_walks_91 (lv_at hl 8 rfl) ?_
    obtain ⟨g5, h⟩ := zg_some h
    refine z_last hx hb hK hL hW hS g5 dX7_walks_93 (fun H locs hW hS => ?_)
    obtain ⟨M6, eM7, h⟩ := zl_some h
    rw [← eM7] at hW
    exact t_X7_walks_94 C0 N hk43 h hW hS (lv_sub hl [1, 2, 3, 4, 5, 6, 0, 7] rfl)
def f_X7_walks_43 (N : Nat) (K len : Nat → Nat) : Nat → Nat → Int32 → Int32 → Int32 → Int32 → Int32 → Int64 → Int32 → ZM → Option (ZM)
  | 0, _, _, _, _, _, _, _, _, _ => none
  | n + 1, x0, x1, x2, x3, x4, x5, x6, x8, M =>
    (if x8 ≤ 0 then
    zg (K x0 == 8) (
    (zR M x0 15).bind fun b3 => (
    zg (zok K len b3 12 x5) (
    zl (zsJ M b3 x5.toNatClampNeg x6) fun M6 => (
    (zR M6 x0 16).bind fun b8 => (
    zg (zok K len b8 11 x5) (
    zl (zsI M6 b8 x5.toNatClampNeg (zI M6 x0 14)) fun M11 => (
    (zR M11 x0 17).bind fun b13 => (
    zg (zok K len b13 13 x5) (
    zl (zsI M11 b13 x5.toNatClampNeg (1 : Int32)) fun M16 => (
    some M16))))))))))
    else
    (if x8 ≤ x4 then
    zg (K x0 == 8) (
    (zR M x0 18).bind fun b20 => (
    zg (zok K len b20 11 x8) (
    zl (zsI M b20 x8.toNatClampNeg ((zI M b20 x8.toNatClampNeg) + (1 : Int32))) fun M23 => (
    (zR M23 x0 18).bind fun b25 => (
    zg (zok K len b25 11 x8) (
    (if (zI M23 b25 x8.toNatClampNeg) ≤ x4 then
    (f_X7_may N K len x0 x1 x8 x2 M23).bind fun q29 => (
    (if q29 = 0 then
    f_X7_walks_43 N K len  n x0 x1 x2 x3 x4 x5 x6 x8 M23
    else
    (if (7 : Int32) ≤ (x8 + 1) then
    f_X7_walks_170 N K len (fun y0 y1 y2 y3 y4 y5 y6 y8 M => f_X7_walks_43 N K len  n y0 y1 y2 y3 y4 y5 y6 y8 M) x0 x1 x2 x3 x4 x5 x6 (x8 + 1) (0 : Int32) b25 M23
    else
    f_X7_walks_170 N K len (fun y0 y1 y2 y3 y4 y5 y6 y8 M => f_X7_walks_43 N K len  n y0 y1 y2 y3 y4 y5 y6 y8 M) x0 x1 x2 x3 x4 x5 x6 (x8 + 1) (x8 + 1) b25 M23)))
    else
    f_X7_walks_43 N K len  n x0 x1 x2 x3 x4 x5 x6 (x8 + (-1)) M23)))))))
    else
    (f_X7_keyOf N K len x0 x1 M).bind fun q33 => (
    zg (K x0 == 8) (
    (if x6 ≤ q33 then
    f_X7_walks_77 N K len (fun y0 y1 y2 y3 y4 y5 y6 y8 M => f_X7_walks_43 N K len  n y0 y1 y2 y3 y4 y5 y6 y8 M) x0 x1 x2 x3 x4 x5 x8 q33 x6 M
    else
    f_X7_walks_77 N K len (fun y0 y1 y2 y3 y4 y5 y6 y8 M => f_X7_walks_43 N K len  n y0 y1 y2 y3 y4 y5 y6 y8 M) x0 x1 x2 x3 x4 x5 x8 q33 q33 M)))))
set_option maxRecDepth 100000 in
set_option maxHeartbeats 4000000 in
theorem t_X7_walks_43 {p : Program} {l : Launch} {e : Env} {s : State} {m : MethodId} {args : Array Value} {below : List Frame} {meth : Method} {c : Code} {D : va_G} {cy : Nat → ClassId} {ad : Nat → Nat} {L : List Nat} {K len : Nat → Nat} (C0 : zCx p s m c meth args cX7_walks 11 wsX7_walks RX7 none D cy ad L K) (N : Nat) {Mr : ZM} : ∀ (n : Nat) {x0 : Nat} {x1 : Int32} {x2 : Int32} {x3 : Int32} {x4 : Int32} {x5 : Int32} {x6 : Int64} {x8 : Int32} {M : ZM}, f_X7_walks_43 N K len n x0 x1 x2 x3 x4 x5 x6 x8 M = some Mr → ∀ {H : Heap} {locs : List Loc} {ls : Array Slot}, zWd D cy ad L K len M H → va_S (zA ad L s.heap.size) s.heap H locs → lv_has ls 11 [(0, .ref (ad x0)), (1, .int x1), (2, .int x2), (3, .int x3), (4, .int x4), (5, .int x5), (6, .long x6), (8, .int x8)] → W p l e (headSpec wsX7_walks ({ frames := 3, cells := 0, slots := 0, locals := 72 } : Room)).room s m args below meth c H locs 0 0 (MQ below (zQv D cy ad L K len Mr s.heap.size) args s 0 0 (zA ad L s.heap.size)) (F0 m 43 ls []) := by
  obtain ⟨hx, hb, hr, hml, hown, hts, hlocks, hK, hL, hE⟩ := id C0
  have hinX7 : ∀ w ∈ wsX70, w ∈ wsX7_walks := by decide +kernel
  intro n
  induction n with
  | zero =>
    intro x0 x1 x2 x3 x4 x5 x6 x8 M h
    cases (show (none : Option (ZM)) = some Mr from h)
  | succ n ih =>
    intro x0 x1 x2 x3 x4 x5 x6 x8 M h H locs ls hW hS hl
    rw [f_X7_walks_43] at h
    refine lv_iload hx hb dX7_walks_43 (lv_at hl 7 rfl) ?_
    refine lv_if_le (tgt := 175) hx hb dX7_walks_45 (by decide) (fun c1 => ?_) (fun c1 => ?_)
    · have h := zip c1 h
      refine lv_aload_n hx hb dX7_walks_175 rfl (lv_at hl 0 rfl) ?_
      obtain ⟨g2, h⟩ := zg_some h
      obtain ⟨b3, e4, h⟩ := zb_some h
      refine z_get (own := RX7) (C := RX7) (T := TX7) (N := 20) (ci := 7) hx hb hts hinX7 hown hK hL hW 15 (zK_of g2) rfl (by decide) (by decide) rfl (hts (.fieldLink RX7 42 "ArcLightModel" "bestKey" "[J") (by decide +kernel)) (v := .ref (ad b3)) (zhvR e4 rfl) dX7_walks_176 ?_
      refine lv_iload hx hb dX7_walks_179 (lv_at hl 5 rfl) ?_
      refine lv_lload hx hb dX7_walks_181 (lv_at hl 6 rfl) ?_
      obtain ⟨g5, h⟩ := zg_some h
      refine z_last hx hb hK hL hW hS g5 dX7_walks_183 (fun H locs hW hS => ?_)
      obtain ⟨M6, eM7, h⟩ := zl_some h
      rw [← eM7] at hW
      refine lv_aload_n hx hb dX7_walks_184 rfl (lv_at hl 0 rfl) ?_
      obtain ⟨b8, e9, h⟩ := zb_some h
      refine z_get (own := RX7) (C := RX7) (T := TX7) (N := 20) (ci := 7) hx hb hts hinX7 hown hK hL hW 16 (zK_of g2) rfl (by decide) (by decide) rfl (hts (.fieldLink RX7 45 "ArcLightModel" "count" "[I") (by decide +kernel)) (v := .ref (ad b8)) (zhvR e9 rfl) dX7_walks_185 ?_
      refine lv_iload hx hb dX7_walks_188 (lv_at hl 5 rfl) ?_
      refine lv_aload_n hx hb dX7_walks_190 rfl (lv_at hl 0 rfl) ?_
      refine z_get (own := RX7) (C := RX7) (T := TX7) (N := 20) (ci := 7) hx hb hts hinX7 hown hK hL hW 14 (zK_of g2) rfl (by decide) (by decide) rfl (hts (.fieldLink RX7 123 "ArcLightModel" "many" "I") (by decide +kernel)) (v := .int (zI M6 x0 14)) rfl dX7_walks_191 ?_
      obtain ⟨g10, h⟩ := zg_some h
      refine z_iast hx hb hK hL hW hS g10 dX7_walks_194 (fun H locs hW hS => ?_)
      obtain ⟨M11, eM12, h⟩ := zl_some h
      rw [← eM12] at hW
      refine lv_aload_n hx hb dX7_walks_195 rfl (lv_at hl 0 rfl) ?_
      obtain ⟨b13, e14, h⟩ := zb_some h
      refine z_get (own := RX7) (C := RX7) (T := TX7) (N := 20) (ci := 7) hx hb hts hinX7 hown hK hL hW 17 (zK_of g2) rfl (by decide) (by decide) rfl (hts (.fieldLink RX7 48 "ArcLightModel" "isFound" "[Z") (by decide +kernel)) (v := .ref (ad b13)) (zhvR e14 rfl) dX7_walks_196 ?_
      refine lv_iload hx hb dX7_walks_199 (lv_at hl 5 rfl) ?_
      refine lv_iconst (v := 1) hx hb dX7_walks_201 (by decide) ?_
      obtain ⟨g15, h⟩ := zg_some h
      refine z_zast hx hb hK hL hW hS g15 (by decide) dX7_walks_202 (fun H locs hW hS => ?_)
      obtain ⟨M16, eM17, h⟩ := zl_some h
      rw [← eM17] at hW
      exact z_vret hx hb hr hlocks hW hS (Option.some.inj h) dX7_walks_203
    · have h := zin c1 h
      refine lv_iload hx hb dX7_walks_48 (lv_at hl 7 rfl) ?_
      refine lv_iload hx hb dX7_walks_50 (lv_at hl 4 rfl) ?_
      refine lv_icmp_le (tgt := 110) hx hb dX7_walks_52 (by decide) (fun c18 => ?_) (fun c18 => ?_)
      · have h := zip c18 h
        refine lv_aload_n hx hb dX7_walks_110 rfl (lv_at hl 0 rfl) ?_
        obtain ⟨g19, h⟩ := zg_some h
        obtain ⟨b20, e21, h⟩ := zb_some h
        refine z_get (own := RX7) (C := RX7) (T := TX7) (N := 20) (ci := 7) hx hb hts hinX7 hown hK hL hW 18 (zK_of g19) rfl (by decide) (by decide) rfl (hts (.fieldLink RX7 52 "ArcLightModel" "head" "[I") (by decide +kernel)) (v := .ref (ad b20)) (zhvR e21 rfl) dX7_walks_111 ?_
        refine lv_iload hx hb dX7_walks_114 (lv_at hl 7 rfl) ?_
        refine lv_dup2_11 hx hb dX7_walks_116 rfl rfl ?_
        obtain ⟨g22, h⟩ := zg_some h
        refine z_iald hx hb hK hL hW g22 dX7_walks_117 ?_
        refine lv_iconst (v := 1) hx hb dX7_walks_118 (by decide) ?_
        refine lv_iadd hx hb dX7_walks_119 ?_
        refine z_iast hx hb hK hL hW hS g22 dX7_walks_120 (fun H locs hW hS => ?_)
        obtain ⟨M23, eM24, h⟩ := zl_some h
        rw [← eM24] at hW
        refine lv_aload_n hx hb dX7_walks_121 rfl (lv_at hl 0 rfl) ?_
        obtain ⟨b25, e26, h⟩ := zb_some h
        refine z_get (own := RX7) (C := RX7) (T := TX7) (N := 20) (ci := 7) hx hb hts hinX7 hown hK hL hW 18 (zK_of g19) rfl (by decide) (by decide) rfl (hts (.fieldLink RX7 52 "ArcLightModel" "head" "[I") (by decide +kernel)) (v := .ref (ad b25)) (zhvR e26 rfl) dX7_walks_122 ?_
        refine lv_iload hx hb dX7_walks_125 (lv_at hl 7 rfl) ?_
        obtain ⟨g27, h⟩ := zg_some h
        refine z_iald hx hb hK hL hW g27 dX7_walks_127 ?_
        refine lv_iload hx hb dX7_walks_128 (lv_at hl 4 rfl) ?_
        refine lv_icmp_le (tgt := 139) hx hb dX7_walks_130 (by decide) (fun c28 => ?_) (fun c28 => ?_)
        · have h := zip c28 h
          refine lv_aload_n hx hb dX7_walks_139 rfl (lv_at hl 0 rfl) ?_
          refine lv_iload_n hx hb dX7_walks_140 rfl (lv_at hl 1 rfl) ?_
          refine lv_iload hx hb dX7_walks_141 (lv_at hl 7 rfl) ?_
          refine lv_iload_n hx hb dX7_walks_143 rfl (lv_at hl 2 rfl) ?_
          obtain ⟨q29, e30, h⟩ := zb_some h
          refine z_calli hS (va_runV (As := [.int x1, .int x8, .int x2]) (rest := []) ⟨hx, hb, hml, hown, hts⟩ (m_X7_may l hL N e30 H.size) (cwV 3 hts gX7_walks_X7_may rfl rfl rfl (by decide +kernel) ⟨Nat.le_of_ble_eq_true rfl, Nat.le_of_ble_eq_true rfl⟩) (z_preV (q := (RX7, TX7, 20)) hK hL hE hW hS (zK_of g19) (by decide) rfl [.int x1, .int x8, .int x2]) rfl rfl hl.1 rfl (lv_room (Nat.le_of_ble_eq_true rfl)) dX7_walks_144 ⟨Nat.le_of_ble_eq_true rfl, Nat.le_of_ble_eq_true rfl⟩) (fun H locs hW hS => ?_)
          refine lv_if_eq (tgt := 43) hx hb dX7_walks_147 (by decide) (fun c31 => ?_) (fun c31 => ?_)
          · have h := zip c31 h
            exact ih h hW hS (lv_sub hl [0, 1, 2, 3, 4, 5, 6, 7] rfl)
          · have h := zin c31 h
            refine lv_iinc (k := 7) (v := (x8 + 1)) (lv' := [(8, .int (x8 + 1)), (0, .ref (ad x0)), (1, .int x1), (2, .int x2), (3, .int x3), (4, .int x4), (5, .int x5), (6, .long x6)]) hx hb dX7_walks_150 hl rfl (by rw [show Int32.ofInt 1 = (1 : Int32) from by decide]) (by decide) rfl (fun ls hl => ?_)
            refine lv_aload_n hx hb dX7_walks_153 rfl (lv_at hl 1 rfl) ?_
            refine z_get (own := RX7) (C := RX7) (T := TX7) (N := 20) (ci := 7) hx hb hts hinX7 hown hK hL hW 18 (zK_of g19) rfl (by decide) (by decide) rfl (hts (.fieldLink RX7 52 "ArcLightModel" "head" "[I") (by decide +kernel)) (v := .ref (ad b25)) (zhvR e26 rfl) dX7_walks_154 ?_
            refine lv_iload hx hb dX7_walks_157 (lv_at hl 0 rfl) ?_
            refine lv_bipush (v := 7) hx hb dX7_walks_159 (by decide) ?_
            refine lv_icmp_ge (tgt := 169) hx hb dX7_walks_161 (by decide) (fun c32 => ?_) (fun c32 => ?_)
            · have h := zip c32 h
              refine lv_iconst (v := 0) hx hb dX7_walks_169 (by decide) ?_
              exact t_X7_walks_170 C0 N (fun h _ _ _ hW hS hl => ih h hW hS hl) h hW hS (lv_sub hl [1, 2, 3, 4, 5, 6, 7, 0] rfl)
            · have h := zin c32 h
              refine lv_iload hx hb dX7_walks_164 (lv_at hl 0 rfl) ?_
              refine lv_goto (tgt := 170) hx hb dX7_walks_166 (by decide) ?_
              exact t_X7_walks_170 C0 N (fun h _ _ _ hW hS hl => ih h hW hS hl) h hW hS (lv_sub hl [1, 2, 3, 4, 5, 6, 7, 0] rfl)
        · have h := zin c28 h
          refine lv_iinc (k := 7) (v := (x8 + (-1))) (lv' := [(8, .int (x8 + (-1))), (0, .ref (ad x0)), (1, .int x1), (2, .int x2), (3, .int x3), (4, .int x4), (5, .int x5), (6, .long x6)]) hx hb dX7_walks_133 hl rfl (by rw [show Int32.ofInt (-1) = (-1 : Int32) from by decide]) (by decide) rfl (fun ls hl => ?_)
          refine lv_goto (tgt := 43) hx hb dX7_walks_136 (by decide) ?_
          exact ih h hW hS (lv_sub hl [1, 2, 3, 4, 5, 6, 7, 0] rfl)
      · have h := zin c18 h
        refine lv_aload_n hx hb dX7_walks_55 rfl (lv_at hl 0 rfl) ?_
        refine lv_iload_n hx hb dX7_walks_56 rfl (lv_at hl 1 rfl) ?_
        obtain ⟨q33, e34, h⟩ := zb_some h
        obtain ⟨g35, h⟩ := zg_some h
        refine z_calll hS (va_runV (As := [.int x1]) (rest := []) ⟨hx, hb, hml, hown, hts⟩ (m_X7_keyOf l hL N e34 H.size) (cwV 1 hts gX7_walks_X7_keyOf rfl rfl rfl (by decide +kernel) ⟨Nat.le_of_ble_eq_true rfl, Nat.le_of_ble_eq_true rfl⟩) (z_preV (q := (RX7, TX7, 20)) hK hL hE hW hS (zK_of g35) (by decide) rfl [.int x1]) rfl rfl hl.1 rfl (lv_room (Nat.le_of_ble_eq_true rfl)) dX7_walks_57 ⟨Nat.le_of_ble_eq_true rfl, Nat.le_of_ble_eq_true rfl⟩) (fun H locs hW hS => ?_)
        refine lv_lstore (lv' := [(9, .long q33), (0, .ref (ad x0)), (1, .int x1), (2, .int x2), (3, .int x3), (4, .int x4), (5, .int x5), (6, .long x6), (8, .int x8)]) hx hb dX7_walks_60 hl (by decide) rfl (fun ls hl => ?_)
        refine lv_lload hx hb dX7_walks_62 (lv_at hl 0 rfl) ?_
        refine lv_lload hx hb dX7_walks_64 (lv_at hl 7 rfl) ?_
        refine z_lc_ge (tgt := 75) hx hb dX7_walks_66 dX7_walks_67 (by decide) (fun c36 => ?_) (fun c36 => ?_)
        · have h := zip c36 h
          refine lv_lload hx hb dX7_walks_75 (lv_at hl 7 rfl) ?_
          exact t_X7_walks_77 C0 N (fun h _ _ _ hW hS hl => ih h hW hS hl) h hW hS (lv_sub hl [1, 2, 3, 4, 5, 6, 8, 0] rfl)
        · have h := zin c36 h
          refine lv_lload hx hb dX7_walks_70 (lv_at hl 0 rfl) ?_
          refine lv_goto (tgt := 77) hx hb dX7_walks_72 (by decide) ?_
          exact t_X7_walks_77 C0 N (fun h _ _ _ hW hS hl => ih h hW hS hl) h hW hS (lv_sub hl [1, 2, 3, 4, 5, 6, 8, 0] rfl)
def f_X7_walks_20 (N : Nat) (K len : Nat → Nat) (x0 : Nat) (x1 : Int32) (x2 : Int32) (x3 : Int32) (x4 : Int32) (s0 : Int32) (s1 : Int32) (M : ZM) : Option (ZM) :=
zg (K x0 == 8) (
zl (zsI M x0 14 (0 : Int32)) fun M2 => (
(zR M2 x0 18).bind fun b4 => (
zg (zok K len b4 11 (1 : Int32)) (
zl (zsI M2 b4 (1 : Int32).toNatClampNeg (-1 : Int32)) fun M7 => (
f_X7_walks_43 N K len  N x0 x1 x2 x3 x4 (s1 + s0) (4611686018427387904 : Int64) (1 : Int32) M7)))))
set_option maxRecDepth 100000 in
set_option maxHeartbeats 4000000 in
theorem t_X7_walks_20 {p : Program} {l : Launch} {e : Env} {s : State} {m : MethodId} {args : Array Value} {below : List Frame} {meth : Method} {c : Code} {D : va_G} {cy : Nat → ClassId} {ad : Nat → Nat} {L : List Nat} {K len : Nat → Nat} (C0 : zCx p s m c meth args cX7_walks 11 wsX7_walks RX7 none D cy ad L K) (N : Nat) {x0 : Nat} {x1 : Int32} {x2 : Int32} {x3 : Int32} {x4 : Int32} {s0 : Int32} {s1 : Int32} {M : ZM} {Mr : ZM} (h : f_X7_walks_20 N K len x0 x1 x2 x3 x4 s0 s1 M = some Mr) {H : Heap} {locs : List Loc} {ls : Array Slot} (hW : zWd D cy ad L K len M H) (hS : va_S (zA ad L s.heap.size) s.heap H locs) (hl : lv_has ls 11 [(0, .ref (ad x0)), (1, .int x1), (2, .int x2), (3, .int x3), (4, .int x4)]) : W p l e (headSpec wsX7_walks ({ frames := 3, cells := 0, slots := 0, locals := 72 } : Room)).room s m args below meth c H locs 0 0 (MQ below (zQv D cy ad L K len Mr s.heap.size) args s 0 0 (zA ad L s.heap.size)) (F0 m 20 ls [.int s0, .int s1]) := by
  obtain ⟨hx, hb, hr, hml, hown, hts, hlocks, hK, hL, hE⟩ := id C0
  have hinX7 : ∀ w ∈ wsX70, w ∈ wsX7_walks := by decide +kernel
  unfold f_X7_walks_20 at h
  refine lv_iadd hx hb dX7_walks_20 ?_
  refine lv_istore (lv' := [(5, .int (s1 + s0)), (0, .ref (ad x0)), (1, .int x1), (2, .int x2), (3, .int x3), (4, .int x4)]) hx hb dX7_walks_21 hl (by decide) rfl (fun ls hl => ?_)
  refine lv_ldc2 hx hb hown (hts (.constantLong RX7 121 (4611686018427387904)) (by decide +kernel)) dX7_walks_23 ?_
  refine lv_lstore (lv' := [(6, .long (4611686018427387904 : Int64)), (5, .int (s1 + s0)), (0, .ref (ad x0)), (1, .int x1), (2, .int x2), (3, .int x3), (4, .int x4)]) hx hb dX7_walks_26 hl (by decide) rfl (fun ls hl => ?_)
  refine lv_aload_n hx hb dX7_walks_28 rfl (lv_at hl 2 rfl) ?_
  refine lv_iconst (v := 0) hx hb dX7_walks_29 (by decide) ?_
  obtain ⟨g1, h⟩ := zg_some h
  refine z_put (own := RX7) (C := RX7) (T := TX7) (N := 20) (ci := 7) (v := .int (0 : Int32)) (M' := zsI M x0 14 (0 : Int32)) hx hb hts hinX7 tyX7 tyX7_ok nmX7 hown hK hL hW hS 14 (zK_of g1) rfl (by decide) (by decide) rfl (hts (.fieldLink RX7 123 "ArcLightModel" "many" "I") (by decide +kernel)) rfl (ty := .int) (by decide +kernel) rfl rfl (Nat.le_of_ble_eq_true rfl) dX7_walks_30 (zM_I (zK_of g1) (by decide) rfl) (fun H locs hW hS => ?_)
  obtain ⟨M2, eM3, h⟩ := zl_some h
  rw [← eM3] at hW
  refine lv_iconst (v := 1) hx hb dX7_walks_33 (by decide) ?_
  refine lv_istore (lv' := [(8, .int (1 : Int32)), (6, .long (4611686018427387904 : Int64)), (5, .int (s1 + s0)), (0, .ref (ad x0)), (1, .int x1), (2, .int x2), (3, .int x3), (4, .int x4)]) hx hb dX7_walks_34 hl (by decide) rfl (fun ls hl => ?_)
  refine lv_aload_n hx hb dX7_walks_36 rfl (lv_at hl 3 rfl) ?_
  obtain ⟨b4, e5, h⟩ := zb_some h
  refine z_get (own := RX7) (C := RX7) (T := TX7) (N := 20) (ci := 7) hx hb hts hinX7 hown hK hL hW 18 (zK_of g1) rfl (by decide) (by decide) rfl (hts (.fieldLink RX7 52 "ArcLightModel" "head" "[I") (by decide +kernel)) (v := .ref (ad b4)) (zhvR e5 rfl) dX7_walks_37 ?_
  refine lv_iconst (v := 1) hx hb dX7_walks_40 (by decide) ?_
  refine lv_iconst (v := -1) hx hb dX7_walks_41 (by decide) ?_
  obtain ⟨g6, h⟩ := zg_some h
  refine z_iast hx hb hK hL hW hS g6 dX7_walks_42 (fun H locs hW hS => ?_)
  obtain ⟨M7, eM8, h⟩ := zl_some h
  rw [← eM8] at hW
  exact t_X7_walks_43 C0 N  N h hW hS (lv_sub hl [3, 4, 5, 6, 7, 2, 1, 0] rfl)
def f_X7_walks_0 (N : Nat) (K len : Nat → Nat) (x0 : Nat) (x1 : Int32) (x2 : Int32) (x3 : Int32) (M : ZM) : Option (ZM) :=
zg (K x0 == 8) (
(zR M x0 1).bind fun b2 => (
zg (zok K len b2 11 x1) (
(if x2 = 0 then
f_X7_walks_20 N K len  x0 x1 x2 x3 (zI M b2 x1.toNatClampNeg) (0 : Int32) ((2 : Int32) * x1) M
else
f_X7_walks_20 N K len  x0 x1 x2 x3 (zI M b2 x1.toNatClampNeg) (1 : Int32) ((2 : Int32) * x1) M))))
set_option maxRecDepth 100000 in
set_option maxHeartbeats 4000000 in
theorem t_X7_walks_0 {p : Program} {l : Launch} {e : Env} {s : State} {m : MethodId} {args : Array Value} {below : List Frame} {meth : Method} {c : Code} {D : va_G} {cy : Nat → ClassId} {ad : Nat → Nat} {L : List Nat} {K len : Nat → Nat} (C0 : zCx p s m c meth args cX7_walks 11 wsX7_walks RX7 none D cy ad L K) (N : Nat) {x0 : Nat} {x1 : Int32} {x2 : Int32} {x3 : Int32} {M : ZM} {Mr : ZM} (h : f_X7_walks_0 N K len x0 x1 x2 x3 M = some Mr) {H : Heap} {locs : List Loc} {ls : Array Slot} (hW : zWd D cy ad L K len M H) (hS : va_S (zA ad L s.heap.size) s.heap H locs) (hl : lv_has ls 11 [(0, .ref (ad x0)), (1, .int x1), (2, .int x2), (3, .int x3)]) : W p l e (headSpec wsX7_walks ({ frames := 3, cells := 0, slots := 0, locals := 72 } : Room)).room s m args below meth c H locs 0 0 (MQ below (zQv D cy ad L K len Mr s.heap.size) args s 0 0 (zA ad L s.heap.size)) (F0 m 0 ls []) := by
  obtain ⟨hx, hb, hr, hml, hown, hts, hlocks, hK, hL, hE⟩ := id C0
  have hinX7 : ∀ w ∈ wsX70, w ∈ wsX7_walks := by decide +kernel
  unfold f_X7_walks_0 at h
  refine lv_aload_n hx hb dX7_walks_0 rfl (lv_at hl 0 rfl) ?_
  obtain ⟨g1, h⟩ := zg_some h
  obtain ⟨b2, e3, h⟩ := zb_some h
  refine z_get (own := RX7) (C := RX7) (T := TX7) (N := 20) (ci := 7) hx hb hts hinX7 hown hK hL hW 1 (zK_of g1) rfl (by decide) (by decide) rfl (hts (.fieldLink RX7 7 "ArcLightModel" "words" "[I") (by decide +kernel)) (v := .ref (ad b2)) (zhvR e3 rfl) dX7_walks_1 ?_
  refine lv_iload_n hx hb dX7_walks_4 rfl (lv_at hl 1 rfl) ?_
  obtain ⟨g4, h⟩ := zg_some h
  refine z_iald hx hb hK hL hW g4 dX7_walks_5 ?_
  refine lv_istore (lv' := [(4, .int (zI M b2 x1.toNatClampNeg)), (0, .ref (ad x0)), (1, .int x1), (2, .int x2), (3, .int x3)]) hx hb dX7_walks_6 hl (by decide) rfl (fun ls hl => ?_)
  refine lv_iconst (v := 2) hx hb dX7_walks_8 (by decide) ?_
  refine lv_iload_n hx hb dX7_walks_9 rfl (lv_at hl 2 rfl) ?_
  refine lv_imul hx hb dX7_walks_10 ?_
  refine lv_iload_n hx hb dX7_walks_11 rfl (lv_at hl 3 rfl) ?_
  refine lv_if_eq (tgt := 19) hx hb dX7_walks_12 (by decide) (fun c5 => ?_) (fun c5 => ?_)
  · have h := zip c5 h
    refine lv_iconst (v := 0) hx hb dX7_walks_19 (by decide) ?_
    exact t_X7_walks_20 C0 N  h hW hS (lv_sub hl [1, 2, 3, 4, 0] rfl)
  · have h := zin c5 h
    refine lv_iconst (v := 1) hx hb dX7_walks_15 (by decide) ?_
    refine lv_goto (tgt := 20) hx hb dX7_walks_16 (by decide) ?_
    exact t_X7_walks_20 C0 N  h hW hS (lv_sub hl [1, 2, 3, 4, 0] rfl)
def f_X7_walks (N : Nat) (K len : Nat → Nat) (a0 : Nat) (a1 : Int32) (a2 : Int32) (a3 : Int32) (M : ZM) : Option (ZM) := f_X7_walks_0 N K len a0 a1 a2 a3 M
set_option maxRecDepth 100000 in
set_option maxHeartbeats 4000000 in
theorem m_X7_walks (l : Launch) {D : va_G} {cy : Nat → ClassId} {ad : Nat → Nat} {L : List Nat} {K len : Nat → Nat} (hL : zSh ad L K) (N : Nat) {a0 : Nat} {a1 : Int32} {a2 : Int32} {a3 : Int32} {M : ZM} {Mr : ZM} (h : f_X7_walks N K len a0 a1 a2 a3 M = some Mr) (sz : Nat) : Met l yX7_walks wsX7_walks ({ frames := 3, cells := 0, slots := 0, locals := 72 } : Room) (zPre D cy ad L K len sz [.ref (ad a0), .int a1, .int a2, .int a3] M) (zQv D cy ad L K len Mr sz) 0 0 (zA ad L sz) :=
  z_entry (Qf := fun sz => zQv D cy ad L K len Mr sz) (av := [.ref (ad a0), .int a1, .int a2, .int a3]) (by decide) rfl rfl hL (Nat.le_of_ble_eq_true rfl) (fun p e s m args below meth c C0 H locs ls hW hS hl => t_X7_walks_0 C0 N h hW hS (lv_sub hl [0, 1, 2, 3] rfl))
def f_X7_finds_12 (N : Nat) (K len : Nat → Nat) (x0 : Nat) (x1 : Int32) (x2 : Int32) (s0 : Int32) (s1 : Int32) (M : ZM) : Option (Int32 × ZM) :=
zg (K x0 == 8) (
(zR M x0 17).bind fun b2 => (
zg (zok K len b2 13 (s1 + s0)) (
(if (zI M b2 (s1 + s0).toNatClampNeg) = 0 then
zl (zsI M x0 13 (-1 : Int32)) fun M6 => (
(f_X7_walks N K len x0 x1 x2 (0 : Int32) M6).bind fun M10 => (
some ((s1 + s0), M10)))
else
some ((s1 + s0), M)))))
set_option maxRecDepth 100000 in
set_option maxHeartbeats 4000000 in
theorem t_X7_finds_12 {p : Program} {l : Launch} {e : Env} {s : State} {m : MethodId} {args : Array Value} {below : List Frame} {meth : Method} {c : Code} {D : va_G} {cy : Nat → ClassId} {ad : Nat → Nat} {L : List Nat} {K len : Nat → Nat} (C0 : zCx p s m c meth args cX7_finds 4 wsX7_finds RX7 (some .int) D cy ad L K) (N : Nat) {x0 : Nat} {x1 : Int32} {x2 : Int32} {s0 : Int32} {s1 : Int32} {M : ZM} {r : Int32} {Mr : ZM} (h : f_X7_finds_12 N K len x0 x1 x2 s0 s1 M = some (r, Mr)) {H : Heap} {locs : List Loc} {ls : Array Slot} (hW : zWd D cy ad L K len M H) (hS : va_S (zA ad L s.heap.size) s.heap H locs) (hl : lv_has ls 4 [(0, .ref (ad x0)), (1, .int x1), (2, .int x2)]) : W p l e (headSpec wsX7_finds ({ frames := 4, cells := 0, slots := 0, locals := 102 } : Room)).room s m args below meth c H locs 0 0 (MQ below (zQi D cy ad L K len r Mr s.heap.size) args s 0 0 (zA ad L s.heap.size)) (F0 m 12 ls [.int s0, .int s1]) := by
  obtain ⟨hx, hb, hr, hml, hown, hts, hlocks, hK, hL, hE⟩ := id C0
  have hinX7 : ∀ w ∈ wsX70, w ∈ wsX7_finds := by decide +kernel
  unfold f_X7_finds_12 at h
  refine lv_iadd hx hb dX7_finds_12 ?_
  refine lv_istore_n (lv' := [(3, .int (s1 + s0)), (0, .ref (ad x0)), (1, .int x1), (2, .int x2)]) hx hb dX7_finds_13 rfl hl (by decide) rfl (fun ls hl => ?_)
  refine lv_aload_n hx hb dX7_finds_14 rfl (lv_at hl 1 rfl) ?_
  obtain ⟨g1, h⟩ := zg_some h
  obtain ⟨b2, e3, h⟩ := zb_some h
  refine z_get (own := RX7) (C := RX7) (T := TX7) (N := 20) (ci := 7) hx hb hts hinX7 hown hK hL hW 17 (zK_of g1) rfl (by decide) (by decide) rfl (hts (.fieldLink RX7 48 "ArcLightModel" "isFound" "[Z") (by decide +kernel)) (v := .ref (ad b2)) (zhvR e3 rfl) dX7_finds_15 ?_
  refine lv_iload_n hx hb dX7_finds_18 rfl (lv_at hl 0 rfl) ?_
  obtain ⟨g4, h⟩ := zg_some h
  refine z_zald hx hb hK hL hW g4 dX7_finds_19 ?_
  refine lv_if_ne (tgt := 35) hx hb dX7_finds_20 (by decide) (fun c5 => ?_) (fun c5 => ?_)
  · have h := zin c5 h
    refine lv_iload_n hx hb dX7_finds_35 rfl (lv_at hl 0 rfl) ?_
    exact z_iret hx hb hr hlocks hW hS (congrArg Prod.fst (Option.some.inj h)) (congrArg Prod.snd (Option.some.inj h)) dX7_finds_36
  · have h := zip c5 h
    refine lv_aload_n hx hb dX7_finds_23 rfl (lv_at hl 1 rfl) ?_
    refine lv_iconst (v := -1) hx hb dX7_finds_24 (by decide) ?_
    refine z_put (own := RX7) (C := RX7) (T := TX7) (N := 20) (ci := 7) (v := .int (-1 : Int32)) (M' := zsI M x0 13 (-1 : Int32)) hx hb hts hinX7 tyX7 tyX7_ok nmX7 hown hK hL hW hS 13 (zK_of g1) rfl (by decide) (by decide) rfl (hts (.fieldLink RX7 38 "ArcLightModel" "listed" "I") (by decide +kernel)) rfl (ty := .int) (by decide +kernel) rfl rfl (Nat.le_of_ble_eq_true rfl) dX7_finds_25 (zM_I (zK_of g1) (by decide) rfl) (fun H locs hW hS => ?_)
    obtain ⟨M6, eM7, h⟩ := zl_some h
    rw [← eM7] at hW
    refine lv_aload_n hx hb dX7_finds_28 rfl (lv_at hl 1 rfl) ?_
    refine lv_iload_n hx hb dX7_finds_29 rfl (lv_at hl 2 rfl) ?_
    refine lv_iload_n hx hb dX7_finds_30 rfl (lv_at hl 3 rfl) ?_
    refine lv_iconst (v := 0) hx hb dX7_finds_31 (by decide) ?_
    obtain ⟨M10, e9, h⟩ := zb_some h
    refine z_callv hS (va_runV (As := [.int x1, .int x2, .int (0 : Int32)]) (rest := []) ⟨hx, hb, hml, hown, hts⟩ (m_X7_walks l hL N e9 H.size) (cwV 3 hts gX7_finds_X7_walks rfl rfl rfl (by decide +kernel) ⟨Nat.le_of_ble_eq_true rfl, Nat.le_of_ble_eq_true rfl⟩) (z_preV (q := (RX7, TX7, 20)) hK hL hE hW hS (zK_of g1) (by decide) rfl [.int x1, .int x2, .int (0 : Int32)]) rfl rfl hl.1 rfl (lv_room (Nat.le_of_ble_eq_true rfl)) dX7_finds_32 ⟨Nat.le_of_ble_eq_true rfl, Nat.le_of_ble_eq_true rfl⟩) (fun H locs hW hS => ?_)
    refine lv_iload_n hx hb dX7_finds_35 rfl (lv_at hl 0 rfl) ?_
    exact z_iret hx hb hr hlocks hW hS (congrArg Prod.fst (Option.some.inj h)) (congrArg Prod.snd (Option.some.inj h)) dX7_finds_36
def f_X7_finds_0 (N : Nat) (K len : Nat → Nat) (x0 : Nat) (x1 : Int32) (x2 : Int32) (M : ZM) : Option (Int32 × ZM) :=
(if x2 = 0 then
f_X7_finds_12 N K len  x0 x1 x2 (0 : Int32) ((2 : Int32) * x1) M
else
f_X7_finds_12 N K len  x0 x1 x2 (1 : Int32) ((2 : Int32) * x1) M)
set_option maxRecDepth 100000 in
set_option maxHeartbeats 4000000 in
theorem t_X7_finds_0 {p : Program} {l : Launch} {e : Env} {s : State} {m : MethodId} {args : Array Value} {below : List Frame} {meth : Method} {c : Code} {D : va_G} {cy : Nat → ClassId} {ad : Nat → Nat} {L : List Nat} {K len : Nat → Nat} (C0 : zCx p s m c meth args cX7_finds 4 wsX7_finds RX7 (some .int) D cy ad L K) (N : Nat) {x0 : Nat} {x1 : Int32} {x2 : Int32} {M : ZM} {r : Int32} {Mr : ZM} (h : f_X7_finds_0 N K len x0 x1 x2 M = some (r, Mr)) {H : Heap} {locs : List Loc} {ls : Array Slot} (hW : zWd D cy ad L K len M H) (hS : va_S (zA ad L s.heap.size) s.heap H locs) (hl : lv_has ls 4 [(0, .ref (ad x0)), (1, .int x1), (2, .int x2)]) : W p l e (headSpec wsX7_finds ({ frames := 4, cells := 0, slots := 0, locals := 102 } : Room)).room s m args below meth c H locs 0 0 (MQ below (zQi D cy ad L K len r Mr s.heap.size) args s 0 0 (zA ad L s.heap.size)) (F0 m 0 ls []) := by
  obtain ⟨hx, hb, hr, hml, hown, hts, hlocks, hK, hL, hE⟩ := id C0
  unfold f_X7_finds_0 at h
  refine lv_iconst (v := 2) hx hb dX7_finds_0 (by decide) ?_
  refine lv_iload_n hx hb dX7_finds_1 rfl (lv_at hl 1 rfl) ?_
  refine lv_imul hx hb dX7_finds_2 ?_
  refine lv_iload_n hx hb dX7_finds_3 rfl (lv_at hl 2 rfl) ?_
  refine lv_if_eq (tgt := 11) hx hb dX7_finds_4 (by decide) (fun c1 => ?_) (fun c1 => ?_)
  · have h := zip c1 h
    refine lv_iconst (v := 0) hx hb dX7_finds_11 (by decide) ?_
    exact t_X7_finds_12 C0 N  h hW hS (lv_sub hl [0, 1, 2] rfl)
  · have h := zin c1 h
    refine lv_iconst (v := 1) hx hb dX7_finds_7 (by decide) ?_
    refine lv_goto (tgt := 12) hx hb dX7_finds_8 (by decide) ?_
    exact t_X7_finds_12 C0 N  h hW hS (lv_sub hl [0, 1, 2] rfl)
def f_X7_finds (N : Nat) (K len : Nat → Nat) (a0 : Nat) (a1 : Int32) (a2 : Int32) (M : ZM) : Option (Int32 × ZM) := f_X7_finds_0 N K len a0 a1 a2 M
set_option maxRecDepth 100000 in
set_option maxHeartbeats 4000000 in
theorem m_X7_finds (l : Launch) {D : va_G} {cy : Nat → ClassId} {ad : Nat → Nat} {L : List Nat} {K len : Nat → Nat} (hL : zSh ad L K) (N : Nat) {a0 : Nat} {a1 : Int32} {a2 : Int32} {M : ZM} {r : Int32} {Mr : ZM} (h : f_X7_finds N K len a0 a1 a2 M = some (r, Mr)) (sz : Nat) : Met l yX7_finds wsX7_finds ({ frames := 4, cells := 0, slots := 0, locals := 102 } : Room) (zPre D cy ad L K len sz [.ref (ad a0), .int a1, .int a2] M) (zQi D cy ad L K len r Mr sz) 0 0 (zA ad L sz) :=
  z_entry (Qf := fun sz => zQi D cy ad L K len r Mr sz) (av := [.ref (ad a0), .int a1, .int a2]) (by decide) rfl rfl hL (Nat.le_of_ble_eq_true rfl) (fun p e s m args below meth c C0 H locs ls hW hS hl => t_X7_finds_0 C0 N h hW hS (lv_sub hl [0, 1, 2] rfl))
def f_X7_sinks_117 (N : Nat) (K len : Nat → Nat) (x0 : Nat) (x3 : Int32) (x4 : Int64) (M : ZM) : Option (ZM) :=
zg (K x0 == 8) (
(zR M x0 12).bind fun b2 => (
zg (zok K len b2 12 x3) (
zl (zsJ M b2 x3.toNatClampNeg x4) fun M5 => (
some M5))))
set_option maxRecDepth 100000 in
set_option maxHeartbeats 4000000 in
theorem t_X7_sinks_117 {p : Program} {l : Launch} {e : Env} {s : State} {m : MethodId} {args : Array Value} {below : List Frame} {meth : Method} {c : Code} {D : va_G} {cy : Nat → ClassId} {ad : Nat → Nat} {L : List Nat} {K len : Nat → Nat} (C0 : zCx p s m c meth args cX7_sinks 8 wsX7_sinks RX7 none D cy ad L K) (N : Nat) {x0 : Nat} {x3 : Int32} {x4 : Int64} {M : ZM} {Mr : ZM} (h : f_X7_sinks_117 N K len x0 x3 x4 M = some Mr) {H : Heap} {locs : List Loc} {ls : Array Slot} (hW : zWd D cy ad L K len M H) (hS : va_S (zA ad L s.heap.size) s.heap H locs) (hl : lv_has ls 8 [(0, .ref (ad x0)), (3, .int x3), (4, .long x4)]) : W p l e (headSpec wsX7_sinks ({ frames := 0, cells := 0, slots := 0, locals := 0 } : Room)).room s m args below meth c H locs 0 0 (MQ below (zQv D cy ad L K len Mr s.heap.size) args s 0 0 (zA ad L s.heap.size)) (F0 m 117 ls []) := by
  obtain ⟨hx, hb, hr, hml, hown, hts, hlocks, hK, hL, hE⟩ := id C0
  have hinX7 : ∀ w ∈ wsX70, w ∈ wsX7_sinks := by decide +kernel
  unfold f_X7_sinks_117 at h
  refine lv_aload_n hx hb dX7_sinks_117 rfl (lv_at hl 0 rfl) ?_
  obtain ⟨g1, h⟩ := zg_some h
  obtain ⟨b2, e3, h⟩ := zb_some h
  refine z_get (own := RX7) (C := RX7) (T := TX7) (N := 20) (ci := 7) hx hb hts hinX7 hown hK hL hW 12 (zK_of g1) rfl (by decide) (by decide) rfl (hts (.fieldLink RX7 35 "ArcLightModel" "tree" "[J") (by decide +kernel)) (v := .ref (ad b2)) (zhvR e3 rfl) dX7_sinks_118 ?_
  refine lv_iload_n hx hb dX7_sinks_121 rfl (lv_at hl 1 rfl) ?_
  refine lv_lload hx hb dX7_sinks_122 (lv_at hl 2 rfl) ?_
  obtain ⟨g4, h⟩ := zg_some h
  refine z_last hx hb hK hL hW hS g4 dX7_sinks_124 (fun H locs hW hS => ?_)
  obtain ⟨M5, eM6, h⟩ := zl_some h
  rw [← eM6] at hW
  exact z_vret hx hb hr hlocks hW hS (Option.some.inj h) dX7_sinks_125
def f_X7_sinks_114 (N : Nat) (K len : Nat → Nat) (kh13 : Nat → Int32 → Int32 → Int64 → Int32 → ZM → Option (ZM)) (x0 : Nat) (x2 : Int32) (x3 : Int32) (x4 : Int64) (x6 : Int32) (M : ZM) : Option (ZM) :=
kh13 x0 x2 x3 x4 x6 M
set_option maxRecDepth 100000 in
set_option maxHeartbeats 4000000 in
theorem t_X7_sinks_114 {p : Program} {l : Launch} {e : Env} {s : State} {m : MethodId} {args : Array Value} {below : List Frame} {meth : Method} {c : Code} {D : va_G} {cy : Nat → ClassId} {ad : Nat → Nat} {L : List Nat} {K len : Nat → Nat} (C0 : zCx p s m c meth args cX7_sinks 8 wsX7_sinks RX7 none D cy ad L K) (N : Nat) {kh13 : Nat → Int32 → Int32 → Int64 → Int32 → ZM → Option (ZM)} {x0 : Nat} {x2 : Int32} {x3 : Int32} {x4 : Int64} {x6 : Int32} {M : ZM} {Mr : ZM} (hk13 : ∀ {y0 : Nat} {y2 : Int32} {y3 : Int32} {y4 : Int64} {y6 : Int32} {M : ZM}, kh13 y0 y2 y3 y4 y6 M = some Mr → ∀ {H : Heap} {locs : List Loc} {ls : Array Slot}, zWd D cy ad L K len M H → va_S (zA ad L s.heap.size) s.heap H locs → lv_has ls 8 [(0, .ref (ad y0)), (2, .int y2), (3, .int y3), (4, .long y4), (6, .int y6)] → W p l e (headSpec wsX7_sinks ({ frames := 0, cells := 0, slots := 0, locals := 0 } : Room)).room s m args below meth c H locs 0 0 (MQ below (zQv D cy ad L K len Mr s.heap.size) args s 0 0 (zA ad L s.heap.size)) (F0 m 13 ls [])) (h : f_X7_sinks_114 N K len kh13 x0 x2 x3 x4 x6 M = some Mr) {H : Heap} {locs : List Loc} {ls : Array Slot} (hW : zWd D cy ad L K len M H) (hS : va_S (zA ad L s.heap.size) s.heap H locs) (hl : lv_has ls 8 [(0, .ref (ad x0)), (2, .int x2), (3, .int x3), (4, .long x4), (6, .int x6)]) : W p l e (headSpec wsX7_sinks ({ frames := 0, cells := 0, slots := 0, locals := 0 } : Room)).room s m args below meth c H locs 0 0 (MQ below (zQv D cy ad L K len Mr s.heap.size) args s 0 0 (zA ad L s.heap.size)) (F0 m 114 ls []) := by
  obtain ⟨hx, hb, hr, hml, hown, hts, hlocks, hK, hL, hE⟩ := id C0
  unfold f_X7_sinks_114 at h
  refine lv_goto (tgt := 13) hx hb dX7_sinks_114 (by decide) ?_
  exact hk13 h hW hS (lv_sub hl [0, 1, 2, 3, 4] rfl)
def f_X7_sinks_91 (N : Nat) (K len : Nat → Nat) (kh13 : Nat → Int32 → Int32 → Int64 → Int32 → ZM → Option (ZM)) (x0 : Nat) (x2 : Int32) (x3 : Int32) (x4 : Int64) (x7 : Int32) (s0 : Int32) (M : ZM) : Option (ZM) :=
(if s0 = 0 then
zg (K x0 == 8) (
(zR M x0 12).bind fun b3 => (
zg (zok K len b3 12 x7) (
zg (zok K len b3 12 x3) (
zl (zsJ M b3 x3.toNatClampNeg (zJ M b3 x7.toNatClampNeg)) fun M7 => (
f_X7_sinks_114 N K len kh13 x0 x2 x7 x4 s0 M7)))))
else
f_X7_sinks_114 N K len kh13 x0 x2 x3 x4 s0 M)
set_option maxRecDepth 100000 in
set_option maxHeartbeats 4000000 in
theorem t_X7_sinks_91 {p : Program} {l : Launch} {e : Env} {s : State} {m : MethodId} {args : Array Value} {below : List Frame} {meth : Method} {c : Code} {D : va_G} {cy : Nat → ClassId} {ad : Nat → Nat} {L : List Nat} {K len : Nat → Nat} (C0 : zCx p s m c meth args cX7_sinks 8 wsX7_sinks RX7 none D cy ad L K) (N : Nat) {kh13 : Nat → Int32 → Int32 → Int64 → Int32 → ZM → Option (ZM)} {x0 : Nat} {x2 : Int32} {x3 : Int32} {x4 : Int64} {x7 : Int32} {s0 : Int32} {M : ZM} {Mr : ZM} (hk13 : ∀ {y0 : Nat} {y2 : Int32} {y3 : Int32} {y4 : Int64} {y6 : Int32} {M : ZM}, kh13 y0 y2 y3 y4 y6 M = some Mr → ∀ {H : Heap} {locs : List Loc} {ls : Array Slot}, zWd D cy ad L K len M H → va_S (zA ad L s.heap.size) s.heap H locs → lv_has ls 8 [(0, .ref (ad y0)), (2, .int y2), (3, .int y3), (4, .long y4), (6, .int y6)] → W p l e (headSpec wsX7_sinks ({ frames := 0, cells := 0, slots := 0, locals := 0 } : Room)).room s m args below meth c H locs 0 0 (MQ below (zQv D cy ad L K len Mr s.heap.size) args s 0 0 (zA ad L s.heap.size)) (F0 m 13 ls [])) (h : f_X7_sinks_91 N K len kh13 x0 x2 x3 x4 x7 s0 M = some Mr) {H : Heap} {locs : List Loc} {ls : Array Slot} (hW : zWd D cy ad L K len M H) (hS : va_S (zA ad L s.heap.size) s.heap H locs) (hl : lv_has ls 8 [(0, .ref (ad x0)), (2, .int x2), (3, .int x3), (4, .long x4), (7, .int x7)]) : W p l e (headSpec wsX7_sinks ({ frames := 0, cells := 0, slots := 0, locals := 0 } : Room)).room s m args below meth c H locs 0 0 (MQ below (zQv D cy ad L K len Mr s.heap.size) args s 0 0 (zA ad L s.heap.size)) (F0 m 91 ls [.int s0]) := by
  obtain ⟨hx, hb, hr, hml, hown, hts, hlocks, hK, hL, hE⟩ := id C0
  have hinX7 : ∀ w ∈ wsX70, w ∈ wsX7_sinks := by decide +kernel
  unfold f_X7_sinks_91 at h
  refine lv_istore (lv' := [(6, .int s0), (0, .ref (ad x0)), (2, .int x2), (3, .int x3), (4, .long x4), (7, .int x7)]) hx hb dX7_sinks_91 hl (by decide) rfl (fun ls hl => ?_)
  refine lv_iload hx hb dX7_sinks_93 (lv_at hl 0 rfl) ?_
  refine lv_if_ne (tgt := 114) hx hb dX7_sinks_95 (by decide) (fun c1 => ?_) (fun c1 => ?_)
  · have h := zin c1 h
    exact t_X7_sinks_114 C0 N hk13 h hW hS (lv_sub hl [1, 2, 3, 4, 0] rfl)
  · have h := zip c1 h
    refine lv_aload_n hx hb dX7_sinks_98 rfl (lv_at hl 1 rfl) ?_
    obtain ⟨g2, h⟩ := zg_some h
    obtain ⟨b3, e4, h⟩ := zb_some h
    refine z_get (own := RX7) (C := RX7) (T := TX7) (N := 20) (ci := 7) hx hb hts hinX7 hown hK hL hW 12 (zK_of g2) rfl (by decide) (by decide) rfl (hts (.fieldLink RX7 35 "ArcLightModel" "tree" "[J") (by decide +kernel)) (v := .ref (ad b3)) (zhvR e4 rfl) dX7_sinks_99 ?_
    refine lv_iload_n hx hb dX7_sinks_102 rfl (lv_at hl 3 rfl) ?_
    refine lv_aload_n hx hb dX7_sinks_103 rfl (lv_at hl 1 rfl) ?_
    refine z_get (own := RX7) (C := RX7) (T := TX7) (N := 20) (ci := 7) hx hb hts hinX7 hown hK hL hW 12 (zK_of g2) rfl (by decide) (by decide) rfl (hts (.fieldLink RX7 35 "ArcLightModel" "tree" "[J") (by decide +kernel)) (v := .ref (ad b3)) (zhvR e4 rfl) dX7_sinks_104 ?_
    refine lv_iload hx hb dX7_sinks_107 (lv_at hl 5 rfl) ?_
    obtain ⟨g5, h⟩ := zg_some h
    refine z_lald hx hb hK hL hW g5 dX7_sinks_109 ?_
    obtain ⟨g6, h⟩ := zg_some h
    refine z_last hx hb hK hL hW hS g6 dX7_sinks_110 (fun H locs hW hS => ?_)
    obtain ⟨M7, eM8, h⟩ := zl_some h
    rw [← eM8] at hW
    refine lv_iload hx hb dX7_sinks_111 (lv_at hl 5 rfl) ?_
    refine lv_istore_n (lv' := [(3, .int x7), (6, .int s0), (0, .ref (ad x0)), (2, .int x2), (4, .long x4), (7, .int x7)]) hx hb dX7_sinks_113 rfl hl (by decide) rfl (fun ls hl => ?_)
    exact t_X7_sinks_114 C0 N hk13 h hW hS (lv_sub hl [2, 3, 0, 4, 1] rfl)
def f_X7_sinks_71 (N : Nat) (K len : Nat → Nat) (kh13 : Nat → Int32 → Int32 → Int64 → Int32 → ZM → Option (ZM)) (x0 : Nat) (x2 : Int32) (x3 : Int32) (x4 : Int64) (s0 : Int32) (M : ZM) : Option (ZM) :=
zg (K x0 == 8) (
(zR M x0 12).bind fun b2 => (
zg (zok K len b2 12 s0) (
(if x4 < (zJ M b2 s0.toNatClampNeg) then
f_X7_sinks_91 N K len kh13 x0 x2 x3 x4 s0 (0 : Int32) M
else
f_X7_sinks_91 N K len kh13 x0 x2 x3 x4 s0 (1 : Int32) M))))
set_option maxRecDepth 100000 in
set_option maxHeartbeats 4000000 in
theorem t_X7_sinks_71 {p : Program} {l : Launch} {e : Env} {s : State} {m : MethodId} {args : Array Value} {below : List Frame} {meth : Method} {c : Code} {D : va_G} {cy : Nat → ClassId} {ad : Nat → Nat} {L : List Nat} {K len : Nat → Nat} (C0 : zCx p s m c meth args cX7_sinks 8 wsX7_sinks RX7 none D cy ad L K) (N : Nat) {kh13 : Nat → Int32 → Int32 → Int64 → Int32 → ZM → Option (ZM)} {x0 : Nat} {x2 : Int32} {x3 : Int32} {x4 : Int64} {s0 : Int32} {M : ZM} {Mr : ZM} (hk13 : ∀ {y0 : Nat} {y2 : Int32} {y3 : Int32} {y4 : Int64} {y6 : Int32} {M : ZM}, kh13 y0 y2 y3 y4 y6 M = some Mr → ∀ {H : Heap} {locs : List Loc} {ls : Array Slot}, zWd D cy ad L K len M H → va_S (zA ad L s.heap.size) s.heap H locs → lv_has ls 8 [(0, .ref (ad y0)), (2, .int y2), (3, .int y3), (4, .long y4), (6, .int y6)] → W p l e (headSpec wsX7_sinks ({ frames := 0, cells := 0, slots := 0, locals := 0 } : Room)).room s m args below meth c H locs 0 0 (MQ below (zQv D cy ad L K len Mr s.heap.size) args s 0 0 (zA ad L s.heap.size)) (F0 m 13 ls [])) (h : f_X7_sinks_71 N K len kh13 x0 x2 x3 x4 s0 M = some Mr) {H : Heap} {locs : List Loc} {ls : Array Slot} (hW : zWd D cy ad L K len M H) (hS : va_S (zA ad L s.heap.size) s.heap H locs) (hl : lv_has ls 8 [(0, .ref (ad x0)), (2, .int x2), (3, .int x3), (4, .long x4)]) : W p l e (headSpec wsX7_sinks ({ frames := 0, cells := 0, slots := 0, locals := 0 } : Room)).room s m args below meth c H locs 0 0 (MQ below (zQv D cy ad L K len Mr s.heap.size) args s 0 0 (zA ad L s.heap.size)) (F0 m 71 ls [.int s0]) := by
  obtain ⟨hx, hb, hr, hml, hown, hts, hlocks, hK, hL, hE⟩ := id C0
  have hinX7 : ∀ w ∈ wsX70, w ∈ wsX7_sinks := by decide +kernel
  unfold f_X7_sinks_71 at h
  refine lv_istore (lv' := [(7, .int s0), (0, .ref (ad x0)), (2, .int x2), (3, .int x3), (4, .long x4)]) hx hb dX7_sinks_71 hl (by decide) rfl (fun ls hl => ?_)
  refine lv_aload_n hx hb dX7_sinks_73 rfl (lv_at hl 1 rfl) ?_
  obtain ⟨g1, h⟩ := zg_some h
  obtain ⟨b2, e3, h⟩ := zb_some h
  refine z_get (own := RX7) (C := RX7) (T := TX7) (N := 20) (ci := 7) hx hb hts hinX7 hown hK hL hW 12 (zK_of g1) rfl (by decide) (by decide) rfl (hts (.fieldLink RX7 35 "ArcLightModel" "tree" "[J") (by decide +kernel)) (v := .ref (ad b2)) (zhvR e3 rfl) dX7_sinks_74 ?_
  refine lv_iload hx hb dX7_sinks_77 (lv_at hl 0 rfl) ?_
  obtain ⟨g4, h⟩ := zg_some h
  refine z_lald hx hb hK hL hW g4 dX7_sinks_79 ?_
  refine lv_lload hx hb dX7_sinks_80 (lv_at hl 4 rfl) ?_
  refine z_lc_gt (tgt := 90) hx hb dX7_sinks_82 dX7_sinks_83 (by decide) (fun c5 => ?_) (fun c5 => ?_)
  · have h := zip c5 h
    refine lv_iconst (v := 0) hx hb dX7_sinks_90 (by decide) ?_
    exact t_X7_sinks_91 C0 N hk13 h hW hS (lv_sub hl [1, 2, 3, 4, 0] rfl)
  · have h := zin c5 h
    refine lv_iconst (v := 1) hx hb dX7_sinks_86 (by decide) ?_
    refine lv_goto (tgt := 91) hx hb dX7_sinks_87 (by decide) ?_
    exact t_X7_sinks_91 C0 N hk13 h hW hS (lv_sub hl [1, 2, 3, 4, 0] rfl)
def f_X7_sinks_69 (N : Nat) (K len : Nat → Nat) (kh13 : Nat → Int32 → Int32 → Int64 → Int32 → ZM → Option (ZM)) (x0 : Nat) (x2 : Int32) (x3 : Int32) (x4 : Int64) (x7 : Int32) (M : ZM) : Option (ZM) :=
f_X7_sinks_71 N K len kh13 x0 x2 x3 x4 x7 M
set_option maxRecDepth 100000 in
set_option maxHeartbeats 4000000 in
theorem t_X7_sinks_69 {p : Program} {l : Launch} {e : Env} {s : State} {m : MethodId} {args : Array Value} {below : List Frame} {meth : Method} {c : Code} {D : va_G} {cy : Nat → ClassId} {ad : Nat → Nat} {L : List Nat} {K len : Nat → Nat} (C0 : zCx p s m c meth args cX7_sinks 8 wsX7_sinks RX7 none D cy ad L K) (N : Nat) {kh13 : Nat → Int32 → Int32 → Int64 → Int32 → ZM → Option (ZM)} {x0 : Nat} {x2 : Int32} {x3 : Int32} {x4 : Int64} {x7 : Int32} {M : ZM} {Mr : ZM} (hk13 : ∀ {y0 : Nat} {y2 : Int32} {y3 : Int32} {y4 : Int64} {y6 : Int32} {M : ZM}, kh13 y0 y2 y3 y4 y6 M = some Mr → ∀ {H : Heap} {locs : List Loc} {ls : Array Slot}, zWd D cy ad L K len M H → va_S (zA ad L s.heap.size) s.heap H locs → lv_has ls 8 [(0, .ref (ad y0)), (2, .int y2), (3, .int y3), (4, .long y4), (6, .int y6)] → W p l e (headSpec wsX7_sinks ({ frames := 0, cells := 0, slots := 0, locals := 0 } : Room)).room s m args below meth c H locs 0 0 (MQ below (zQv D cy ad L K len Mr s.heap.size) args s 0 0 (zA ad L s.heap.size)) (F0 m 13 ls [])) (h : f_X7_sinks_69 N K len kh13 x0 x2 x3 x4 x7 M = some Mr) {H : Heap} {locs : List Loc} {ls : Array Slot} (hW : zWd D cy ad L K len M H) (hS : va_S (zA ad L s.heap.size) s.heap H locs) (hl : lv_has ls 8 [(0, .ref (ad x0)), (2, .int x2), (3, .int x3), (4, .long x4), (7, .int x7)]) : W p l e (headSpec wsX7_sinks ({ frames := 0, cells := 0, slots := 0, locals := 0 } : Room)).room s m args below meth c H locs 0 0 (MQ below (zQv D cy ad L K len Mr s.heap.size) args s 0 0 (zA ad L s.heap.size)) (F0 m 69 ls []) := by
  obtain ⟨hx, hb, hr, hml, hown, hts, hlocks, hK, hL, hE⟩ := id C0
  unfold f_X7_sinks_69 at h
  refine lv_iload hx hb dX7_sinks_69 (lv_at hl 4 rfl) ?_
  exact t_X7_sinks_71 C0 N hk13 h hW hS (lv_sub hl [0, 1, 2, 3] rfl)
def f_X7_sinks_13 (N : Nat) (K len : Nat → Nat) : Nat → Nat → Int32 → Int32 → Int64 → Int32 → ZM → Option (ZM)
  | 0, _, _, _, _, _, _ => none
  | n + 1, x0, x2, x3, x4, x6, M =>
    (if x6 = 0 then
    (if x2 ≤ (((2 : Int32) * x3) + (1 : Int32)) then
    f_X7_sinks_117 N K len  x0 x3 x4 M
    else
    (if x2 ≤ ((((2 : Int32) * x3) + (1 : Int32)) + (1 : Int32)) then
    f_X7_sinks_69 N K len (fun y0 y2 y3 y4 y6 M => f_X7_sinks_13 N K len  n y0 y2 y3 y4 y6 M) x0 x2 x3 x4 (((2 : Int32) * x3) + (1 : Int32)) M
    else
    zg (K x0 == 8) (
    (zR M x0 12).bind fun b5 => (
    zg (zok K len b5 12 ((((2 : Int32) * x3) + (1 : Int32)) + (1 : Int32))) (
    zg (zok K len b5 12 (((2 : Int32) * x3) + (1 : Int32))) (
    (if (zJ M b5 ((((2 : Int32) * x3) + (1 : Int32)) + (1 : Int32)).toNatClampNeg) ≤ (zJ M b5 (((2 : Int32) * x3) + (1 : Int32)).toNatClampNeg) then
    f_X7_sinks_69 N K len (fun y0 y2 y3 y4 y6 M => f_X7_sinks_13 N K len  n y0 y2 y3 y4 y6 M) x0 x2 x3 x4 (((2 : Int32) * x3) + (1 : Int32)) M
    else
    f_X7_sinks_71 N K len (fun y0 y2 y3 y4 y6 M => f_X7_sinks_13 N K len  n y0 y2 y3 y4 y6 M) x0 x2 x3 x4 ((((2 : Int32) * x3) + (1 : Int32)) + (1 : Int32)) M)))))))
    else
    f_X7_sinks_117 N K len  x0 x3 x4 M)
set_option maxRecDepth 100000 in
set_option maxHeartbeats 4000000 in
theorem t_X7_sinks_13 {p : Program} {l : Launch} {e : Env} {s : State} {m : MethodId} {args : Array Value} {below : List Frame} {meth : Method} {c : Code} {D : va_G} {cy : Nat → ClassId} {ad : Nat → Nat} {L : List Nat} {K len : Nat → Nat} (C0 : zCx p s m c meth args cX7_sinks 8 wsX7_sinks RX7 none D cy ad L K) (N : Nat) {Mr : ZM} : ∀ (n : Nat) {x0 : Nat} {x2 : Int32} {x3 : Int32} {x4 : Int64} {x6 : Int32} {M : ZM}, f_X7_sinks_13 N K len n x0 x2 x3 x4 x6 M = some Mr → ∀ {H : Heap} {locs : List Loc} {ls : Array Slot}, zWd D cy ad L K len M H → va_S (zA ad L s.heap.size) s.heap H locs → lv_has ls 8 [(0, .ref (ad x0)), (2, .int x2), (3, .int x3), (4, .long x4), (6, .int x6)] → W p l e (headSpec wsX7_sinks ({ frames := 0, cells := 0, slots := 0, locals := 0 } : Room)).room s m args below meth c H locs 0 0 (MQ below (zQv D cy ad L K len Mr s.heap.size) args s 0 0 (zA ad L s.heap.size)) (F0 m 13 ls []) := by
  obtain ⟨hx, hb, hr, hml, hown, hts, hlocks, hK, hL, hE⟩ := id C0
  have hinX7 : ∀ w ∈ wsX70, w ∈ wsX7_sinks := by decide +kernel
  intro n
  induction n with
  | zero =>
    intro x0 x2 x3 x4 x6 M h
    cases (show (none : Option (ZM)) = some Mr from h)
  | succ n ih =>
    intro x0 x2 x3 x4 x6 M h H locs ls hW hS hl
    rw [f_X7_sinks_13] at h
    refine lv_iload hx hb dX7_sinks_13 (lv_at hl 4 rfl) ?_
    refine lv_if_ne (tgt := 117) hx hb dX7_sinks_15 (by decide) (fun c1 => ?_) (fun c1 => ?_)
    · have h := zin c1 h
      exact t_X7_sinks_117 C0 N  h hW hS (lv_sub hl [0, 2, 3] rfl)
    · have h := zip c1 h
      refine lv_iconst (v := 2) hx hb dX7_sinks_18 (by decide) ?_
      refine lv_iload_n hx hb dX7_sinks_19 rfl (lv_at hl 2 rfl) ?_
      refine lv_imul hx hb dX7_sinks_20 ?_
      refine lv_iconst (v := 1) hx hb dX7_sinks_21 (by decide) ?_
      refine lv_iadd hx hb dX7_sinks_22 ?_
      refine lv_iload_n hx hb dX7_sinks_23 rfl (lv_at hl 1 rfl) ?_
      refine lv_icmp_ge (tgt := 117) hx hb dX7_sinks_24 (by decide) (fun c2 => ?_) (fun c2 => ?_)
      · have h := zip c2 h
        exact t_X7_sinks_117 C0 N  h hW hS (lv_sub hl [0, 2, 3] rfl)
      · have h := zin c2 h
        refine lv_iconst (v := 2) hx hb dX7_sinks_27 (by decide) ?_
        refine lv_iload_n hx hb dX7_sinks_28 rfl (lv_at hl 2 rfl) ?_
        refine lv_imul hx hb dX7_sinks_29 ?_
        refine lv_iconst (v := 1) hx hb dX7_sinks_30 (by decide) ?_
        refine lv_iadd hx hb dX7_sinks_31 ?_
        refine lv_istore (lv' := [(7, .int (((2 : Int32) * x3) + (1 : Int32))), (0, .ref (ad x0)), (2, .int x2), (3, .int x3), (4, .long x4), (6, .int x6)]) hx hb dX7_sinks_32 hl (by decide) rfl (fun ls hl => ?_)
        refine lv_iload hx hb dX7_sinks_34 (lv_at hl 0 rfl) ?_
        refine lv_iconst (v := 1) hx hb dX7_sinks_36 (by decide) ?_
        refine lv_iadd hx hb dX7_sinks_37 ?_
        refine lv_iload_n hx hb dX7_sinks_38 rfl (lv_at hl 2 rfl) ?_
        refine lv_icmp_ge (tgt := 69) hx hb dX7_sinks_39 (by decide) (fun c3 => ?_) (fun c3 => ?_)
        · have h := zip c3 h
          exact t_X7_sinks_69 C0 N (fun h _ _ _ hW hS hl => ih h hW hS hl) h hW hS (lv_sub hl [1, 2, 3, 4, 0] rfl)
        · have h := zin c3 h
          refine lv_aload_n hx hb dX7_sinks_42 rfl (lv_at hl 1 rfl) ?_
          obtain ⟨g4, h⟩ := zg_some h
          obtain ⟨b5, e6, h⟩ := zb_some h
          refine z_get (own := RX7) (C := RX7) (T := TX7) (N := 20) (ci := 7) hx hb hts hinX7 hown hK hL hW 12 (zK_of g4) rfl (by decide) (by decide) rfl (hts (.fieldLink RX7 35 "ArcLightModel" "tree" "[J") (by decide +kernel)) (v := .ref (ad b5)) (zhvR e6 rfl) dX7_sinks_43 ?_
          refine lv_iload hx hb dX7_sinks_46 (lv_at hl 0 rfl) ?_
          refine lv_iconst (v := 1) hx hb dX7_sinks_48 (by decide) ?_
          refine lv_iadd hx hb dX7_sinks_49 ?_
          obtain ⟨g7, h⟩ := zg_some h
          refine z_lald hx hb hK hL hW g7 dX7_sinks_50 ?_
          refine lv_aload_n hx hb dX7_sinks_51 rfl (lv_at hl 1 rfl) ?_
          refine z_get (own := RX7) (C := RX7) (T := TX7) (N := 20) (ci := 7) hx hb hts hinX7 hown hK hL hW 12 (zK_of g4) rfl (by decide) (by decide) rfl (hts (.fieldLink RX7 35 "ArcLightModel" "tree" "[J") (by decide +kernel)) (v := .ref (ad b5)) (zhvR e6 rfl) dX7_sinks_52 ?_
          refine lv_iload hx hb dX7_sinks_55 (lv_at hl 0 rfl) ?_
          obtain ⟨g8, h⟩ := zg_some h
          refine z_lald hx hb hK hL hW g8 dX7_sinks_57 ?_
          refine z_lc_le (tgt := 69) hx hb dX7_sinks_58 dX7_sinks_59 (by decide) (fun c9 => ?_) (fun c9 => ?_)
          · have h := zip c9 h
            exact t_X7_sinks_69 C0 N (fun h _ _ _ hW hS hl => ih h hW hS hl) h hW hS (lv_sub hl [1, 2, 3, 4, 0] rfl)
          · have h := zin c9 h
            refine lv_iload hx hb dX7_sinks_62 (lv_at hl 0 rfl) ?_
            refine lv_iconst (v := 1) hx hb dX7_sinks_64 (by decide) ?_
            refine lv_iadd hx hb dX7_sinks_65 ?_
            refine lv_goto (tgt := 71) hx hb dX7_sinks_66 (by decide) ?_
            exact t_X7_sinks_71 C0 N (fun h _ _ _ hW hS hl => ih h hW hS hl) h hW hS (lv_sub hl [1, 2, 3, 4] rfl)
def f_X7_sinks_0 (N : Nat) (K len : Nat → Nat) (x0 : Nat) (x1 : Int32) (x2 : Int32) (M : ZM) : Option (ZM) :=
zg (K x0 == 8) (
(zR M x0 12).bind fun b2 => (
zg (zok K len b2 12 x1) (
f_X7_sinks_13 N K len  N x0 x2 x1 (zJ M b2 x1.toNatClampNeg) (0 : Int32) M)))
set_option maxRecDepth 100000 in
set_option maxHeartbeats 4000000 in
theorem t_X7_sinks_0 {p : Program} {l : Launch} {e : Env} {s : State} {m : MethodId} {args : Array Value} {below : List Frame} {meth : Method} {c : Code} {D : va_G} {cy : Nat → ClassId} {ad : Nat → Nat} {L : List Nat} {K len : Nat → Nat} (C0 : zCx p s m c meth args cX7_sinks 8 wsX7_sinks RX7 none D cy ad L K) (N : Nat) {x0 : Nat} {x1 : Int32} {x2 : Int32} {M : ZM} {Mr : ZM} (h : f_X7_sinks_0 N K len x0 x1 x2 M = some Mr) {H : Heap} {locs : List Loc} {ls : Array Slot} (hW : zWd D cy ad L K len M H) (hS : va_S (zA ad L s.heap.size) s.heap H locs) (hl : lv_has ls 8 [(0, .ref (ad x0)), (1, .int x1), (2, .int x2)]) : W p l e (headSpec wsX7_sinks ({ frames := 0, cells := 0, slots := 0, locals := 0 } : Room)).room s m args below meth c H locs 0 0 (MQ below (zQv D cy ad L K len Mr s.heap.size) args s 0 0 (zA ad L s.heap.size)) (F0 m 0 ls []) := by
  obtain ⟨hx, hb, hr, hml, hown, hts, hlocks, hK, hL, hE⟩ := id C0
  have hinX7 : ∀ w ∈ wsX70, w ∈ wsX7_sinks := by decide +kernel
  unfold f_X7_sinks_0 at h
  refine lv_iload_n hx hb dX7_sinks_0 rfl (lv_at hl 1 rfl) ?_
  refine lv_istore_n (lv' := [(3, .int x1), (0, .ref (ad x0)), (1, .int x1), (2, .int x2)]) hx hb dX7_sinks_1 rfl hl (by decide) rfl (fun ls hl => ?_)
  refine lv_aload_n hx hb dX7_sinks_2 rfl (lv_at hl 1 rfl) ?_
  obtain ⟨g1, h⟩ := zg_some h
  obtain ⟨b2, e3, h⟩ := zb_some h
  refine z_get (own := RX7) (C := RX7) (T := TX7) (N := 20) (ci := 7) hx hb hts hinX7 hown hK hL hW 12 (zK_of g1) rfl (by decide) (by decide) rfl (hts (.fieldLink RX7 35 "ArcLightModel" "tree" "[J") (by decide +kernel)) (v := .ref (ad b2)) (zhvR e3 rfl) dX7_sinks_3 ?_
  refine lv_iload_n hx hb dX7_sinks_6 rfl (lv_at hl 0 rfl) ?_
  obtain ⟨g4, h⟩ := zg_some h
  refine z_lald hx hb hK hL hW g4 dX7_sinks_7 ?_
  refine lv_lstore (lv' := [(4, .long (zJ M b2 x1.toNatClampNeg)), (3, .int x1), (0, .ref (ad x0)), (1, .int x1), (2, .int x2)]) hx hb dX7_sinks_8 hl (by decide) rfl (fun ls hl => ?_)
  refine lv_iconst (v := 0) hx hb dX7_sinks_10 (by decide) ?_
  refine lv_istore (lv' := [(6, .int (0 : Int32)), (4, .long (zJ M b2 x1.toNatClampNeg)), (3, .int x1), (0, .ref (ad x0)), (1, .int x1), (2, .int x2)]) hx hb dX7_sinks_11 hl (by decide) rfl (fun ls hl => ?_)
  exact t_X7_sinks_13 C0 N  N h hW hS (lv_sub hl [3, 5, 2, 1, 0] rfl)
def f_X7_sinks (N : Nat) (K len : Nat → Nat) (a0 : Nat) (a1 : Int32) (a2 : Int32) (M : ZM) : Option (ZM) := f_X7_sinks_0 N K len a0 a1 a2 M
set_option maxRecDepth 100000 in
set_option maxHeartbeats 4000000 in
theorem m_X7_sinks (l : Launch) {D : va_G} {cy : Nat → ClassId} {ad : Nat → Nat} {L : List Nat} {K len : Nat → Nat} (hL : zSh ad L K) (N : Nat) {a0 : Nat} {a1 : Int32} {a2 : Int32} {M : ZM} {Mr : ZM} (h : f_X7_sinks N K len a0 a1 a2 M = some Mr) (sz : Nat) : Met l yX7_sinks wsX7_sinks ({ frames := 0, cells := 0, slots := 0, locals := 0 } : Room) (zPre D cy ad L K len sz [.ref (ad a0), .int a1, .int a2] M) (zQv D cy ad L K len Mr sz) 0 0 (zA ad L sz) :=
  z_entry (Qf := fun sz => zQv D cy ad L K len Mr sz) (av := [.ref (ad a0), .int a1, .int a2]) (by decide) rfl rfl hL (Nat.le_of_ble_eq_true rfl) (fun p e s m args below meth c C0 H locs ls hW hS hl => t_X7_sinks_0 C0 N h hW hS (lv_sub hl [0, 1, 2] rfl))
def f_X7_lists_74 (N : Nat) (K len : Nat → Nat) : Nat → Nat → Int32 → ZM → Option (ZM)
  | 0, _, _, _ => none
  | n + 1, x0, x4, M =>
    (if x4 ≤ 0 then
    some M
    else
    zg (K x0 == 8) (
    (zR M x0 12).bind fun b3 => (
    zg (zok K len b3 12 x4) (
    zg (zok K len b3 12 (0 : Int32)) (
    zl (zsJ M b3 x4.toNatClampNeg (zJ M b3 (0 : Int32).toNatClampNeg)) fun M7 => (
    (zR M7 x0 12).bind fun b9 => (
    zg (zok K len b9 12 (0 : Int32)) (
    zl (zsJ M7 b9 (0 : Int32).toNatClampNeg (zJ M b3 x4.toNatClampNeg)) fun M12 => (
    (f_X7_sinks N K len x0 (0 : Int32) x4 M12).bind fun M16 => (
    f_X7_lists_74 N K len  n x0 (x4 + (-1)) M16))))))))))
set_option maxRecDepth 100000 in
set_option maxHeartbeats 4000000 in
theorem t_X7_lists_74 {p : Program} {l : Launch} {e : Env} {s : State} {m : MethodId} {args : Array Value} {below : List Frame} {meth : Method} {c : Code} {D : va_G} {cy : Nat → ClassId} {ad : Nat → Nat} {L : List Nat} {K len : Nat → Nat} (C0 : zCx p s m c meth args cX7_lists 7 wsX7_lists RX7 none D cy ad L K) (N : Nat) {Mr : ZM} : ∀ (n : Nat) {x0 : Nat} {x4 : Int32} {M : ZM}, f_X7_lists_74 N K len n x0 x4 M = some Mr → ∀ {H : Heap} {locs : List Loc} {ls : Array Slot}, zWd D cy ad L K len M H → va_S (zA ad L s.heap.size) s.heap H locs → lv_has ls 7 [(0, .ref (ad x0)), (4, .int x4)] → W p l e (headSpec wsX7_lists ({ frames := 4, cells := 0, slots := 0, locals := 102 } : Room)).room s m args below meth c H locs 0 0 (MQ below (zQv D cy ad L K len Mr s.heap.size) args s 0 0 (zA ad L s.heap.size)) (F0 m 74 ls []) := by
  obtain ⟨hx, hb, hr, hml, hown, hts, hlocks, hK, hL, hE⟩ := id C0
  have hinX7 : ∀ w ∈ wsX70, w ∈ wsX7_lists := by decide +kernel
  intro n
  induction n with
  | zero =>
    intro x0 x4 M h
    cases (show (none : Option (ZM)) = some Mr from h)
  | succ n ih =>
    intro x0 x4 M h H locs ls hW hS hl
    rw [f_X7_lists_74] at h
    refine lv_iload hx hb dX7_lists_74 (lv_at hl 1 rfl) ?_
    refine lv_if_le (tgt := 122) hx hb dX7_lists_76 (by decide) (fun c1 => ?_) (fun c1 => ?_)
    · have h := zip c1 h
      exact z_vret hx hb hr hlocks hW hS (Option.some.inj h) dX7_lists_122
    · have h := zin c1 h
      refine lv_aload_n hx hb dX7_lists_79 rfl (lv_at hl 0 rfl) ?_
      obtain ⟨g2, h⟩ := zg_some h
      obtain ⟨b3, e4, h⟩ := zb_some h
      refine z_get (own := RX7) (C := RX7) (T := TX7) (N := 20) (ci := 7) hx hb hts hinX7 hown hK hL hW 12 (zK_of g2) rfl (by decide) (by decide) rfl (hts (.fieldLink RX7 35 "ArcLightModel" "tree" "[J") (by decide +kernel)) (v := .ref (ad b3)) (zhvR e4 rfl) dX7_lists_80 ?_
      refine lv_iload hx hb dX7_lists_83 (lv_at hl 1 rfl) ?_
      obtain ⟨g5, h⟩ := zg_some h
      refine z_lald hx hb hK hL hW g5 dX7_lists_85 ?_
      refine lv_lstore (lv' := [(5, .long (zJ M b3 x4.toNatClampNeg)), (0, .ref (ad x0)), (4, .int x4)]) hx hb dX7_lists_86 hl (by decide) rfl (fun ls hl => ?_)
      refine lv_aload_n hx hb dX7_lists_88 rfl (lv_at hl 1 rfl) ?_
      refine z_get (own := RX7) (C := RX7) (T := TX7) (N := 20) (ci := 7) hx hb hts hinX7 hown hK hL hW 12 (zK_of g2) rfl (by decide) (by decide) rfl (hts (.fieldLink RX7 35 "ArcLightModel" "tree" "[J") (by decide +kernel)) (v := .ref (ad b3)) (zhvR e4 rfl) dX7_lists_89 ?_
      refine lv_iload hx hb dX7_lists_92 (lv_at hl 2 rfl) ?_
      refine lv_aload_n hx hb dX7_lists_94 rfl (lv_at hl 1 rfl) ?_
      refine z_get (own := RX7) (C := RX7) (T := TX7) (N := 20) (ci := 7) hx hb hts hinX7 hown hK hL hW 12 (zK_of g2) rfl (by decide) (by decide) rfl (hts (.fieldLink RX7 35 "ArcLightModel" "tree" "[J") (by decide +kernel)) (v := .ref (ad b3)) (zhvR e4 rfl) dX7_lists_95 ?_
      refine lv_iconst (v := 0) hx hb dX7_lists_98 (by decide) ?_
      obtain ⟨g6, h⟩ := zg_some h
      refine z_lald hx hb hK hL hW g6 dX7_lists_99 ?_
      refine z_last hx hb hK hL hW hS g5 dX7_lists_100 (fun H locs hW hS => ?_)
      obtain ⟨M7, eM8, h⟩ := zl_some h
      rw [← eM8] at hW
      refine lv_aload_n hx hb dX7_lists_101 rfl (lv_at hl 1 rfl) ?_
      obtain ⟨b9, e10, h⟩ := zb_some h
      refine z_get (own := RX7) (C := RX7) (T := TX7) (N := 20) (ci := 7) hx hb hts hinX7 hown hK hL hW 12 (zK_of g2) rfl (by decide) (by decide) rfl (hts (.fieldLink RX7 35 "ArcLightModel" "tree" "[J") (by decide +kernel)) (v := .ref (ad b9)) (zhvR e10 rfl) dX7_lists_102 ?_
      refine lv_iconst (v := 0) hx hb dX7_lists_105 (by decide) ?_
      refine lv_lload hx hb dX7_lists_106 (lv_at hl 0 rfl) ?_
      obtain ⟨g11, h⟩ := zg_some h
      refine z_last hx hb hK hL hW hS g11 dX7_lists_108 (fun H locs hW hS => ?_)
      obtain ⟨M12, eM13, h⟩ := zl_some h
      rw [← eM13] at hW
      refine lv_aload_n hx hb dX7_lists_109 rfl (lv_at hl 1 rfl) ?_
      refine lv_iconst (v := 0) hx hb dX7_lists_110 (by decide) ?_
      refine lv_iload hx hb dX7_lists_111 (lv_at hl 2 rfl) ?_
      obtain ⟨M16, e15, h⟩ := zb_some h
      refine z_callv hS (va_runV (As := [.int (0 : Int32), .int x4]) (rest := []) ⟨hx, hb, hml, hown, hts⟩ (m_X7_sinks l hL N e15 H.size) (cwV 2 hts gX7_lists_X7_sinks rfl rfl rfl (by decide +kernel) ⟨Nat.le_of_ble_eq_true rfl, Nat.le_of_ble_eq_true rfl⟩) (z_preV (q := (RX7, TX7, 20)) hK hL hE hW hS (zK_of g2) (by decide) rfl [.int (0 : Int32), .int x4]) rfl rfl hl.1 rfl (lv_room (Nat.le_of_ble_eq_true rfl)) dX7_lists_113 ⟨Nat.le_of_ble_eq_true rfl, Nat.le_of_ble_eq_true rfl⟩) (fun H locs hW hS => ?_)
      refine lv_iinc (k := 2) (v := (x4 + (-1))) (lv' := [(4, .int (x4 + (-1))), (5, .long (zJ M b3 x4.toNatClampNeg)), (0, .ref (ad x0))]) hx hb dX7_lists_116 hl rfl (by rw [show Int32.ofInt (-1) = (-1 : Int32) from by decide]) (by decide) rfl (fun ls hl => ?_)
      refine lv_goto (tgt := 74) hx hb dX7_lists_119 (by decide) ?_
      exact ih h hW hS (lv_sub hl [2, 0] rfl)
def f_X7_lists_45 (N : Nat) (K len : Nat → Nat) : Nat → Nat → Int32 → ZM → Option (ZM)
  | 0, _, _, _ => none
  | n + 1, x0, x4, M =>
    (if x4 < 0 then
    zg (K x0 == 8) (
    f_X7_lists_74 N K len  N x0 ((zI M x0 14) - (1 : Int32)) M)
    else
    zg (K x0 == 8) (
    (f_X7_sinks N K len x0 x4 (zI M x0 14) M).bind fun M6 => (
    f_X7_lists_45 N K len  n x0 (x4 + (-1)) M6)))
set_option maxRecDepth 100000 in
set_option maxHeartbeats 4000000 in
theorem t_X7_lists_45 {p : Program} {l : Launch} {e : Env} {s : State} {m : MethodId} {args : Array Value} {below : List Frame} {meth : Method} {c : Code} {D : va_G} {cy : Nat → ClassId} {ad : Nat → Nat} {L : List Nat} {K len : Nat → Nat} (C0 : zCx p s m c meth args cX7_lists 7 wsX7_lists RX7 none D cy ad L K) (N : Nat) {Mr : ZM} : ∀ (n : Nat) {x0 : Nat} {x4 : Int32} {M : ZM}, f_X7_lists_45 N K len n x0 x4 M = some Mr → ∀ {H : Heap} {locs : List Loc} {ls : Array Slot}, zWd D cy ad L K len M H → va_S (zA ad L s.heap.size) s.heap H locs → lv_has ls 7 [(0, .ref (ad x0)), (4, .int x4)] → W p l e (headSpec wsX7_lists ({ frames := 4, cells := 0, slots := 0, locals := 102 } : Room)).room s m args below meth c H locs 0 0 (MQ below (zQv D cy ad L K len Mr s.heap.size) args s 0 0 (zA ad L s.heap.size)) (F0 m 45 ls []) := by
  obtain ⟨hx, hb, hr, hml, hown, hts, hlocks, hK, hL, hE⟩ := id C0
  have hinX7 : ∀ w ∈ wsX70, w ∈ wsX7_lists := by decide +kernel
  intro n
  induction n with
  | zero =>
    intro x0 x4 M h
    cases (show (none : Option (ZM)) = some Mr from h)
  | succ n ih =>
    intro x0 x4 M h H locs ls hW hS hl
    rw [f_X7_lists_45] at h
    refine lv_iload hx hb dX7_lists_45 (lv_at hl 1 rfl) ?_
    refine lv_if_lt (tgt := 66) hx hb dX7_lists_47 (by decide) (fun c1 => ?_) (fun c1 => ?_)
    · have h := zip c1 h
      refine lv_aload_n hx hb dX7_lists_66 rfl (lv_at hl 0 rfl) ?_
      obtain ⟨g2, h⟩ := zg_some h
      refine z_get (own := RX7) (C := RX7) (T := TX7) (N := 20) (ci := 7) hx hb hts hinX7 hown hK hL hW 14 (zK_of g2) rfl (by decide) (by decide) rfl (hts (.fieldLink RX7 123 "ArcLightModel" "many" "I") (by decide +kernel)) (v := .int (zI M x0 14)) rfl dX7_lists_67 ?_
      refine lv_iconst (v := 1) hx hb dX7_lists_70 (by decide) ?_
      refine lv_isub hx hb dX7_lists_71 ?_
      refine lv_istore (lv' := [(4, .int ((zI M x0 14) - (1 : Int32))), (0, .ref (ad x0))]) hx hb dX7_lists_72 hl (by decide) rfl (fun ls hl => ?_)
      exact t_X7_lists_74 C0 N  N h hW hS (lv_sub hl [1, 0] rfl)
    · have h := zin c1 h
      refine lv_aload_n hx hb dX7_lists_50 rfl (lv_at hl 0 rfl) ?_
      refine lv_iload hx hb dX7_lists_51 (lv_at hl 1 rfl) ?_
      refine lv_aload_n hx hb dX7_lists_53 rfl (lv_at hl 0 rfl) ?_
      obtain ⟨g3, h⟩ := zg_some h
      refine z_get (own := RX7) (C := RX7) (T := TX7) (N := 20) (ci := 7) hx hb hts hinX7 hown hK hL hW 14 (zK_of g3) rfl (by decide) (by decide) rfl (hts (.fieldLink RX7 123 "ArcLightModel" "many" "I") (by decide +kernel)) (v := .int (zI M x0 14)) rfl dX7_lists_54 ?_
      obtain ⟨M6, e5, h⟩ := zb_some h
      refine z_callv hS (va_runV (As := [.int x4, .int (zI M x0 14)]) (rest := []) ⟨hx, hb, hml, hown, hts⟩ (m_X7_sinks l hL N e5 H.size) (cwV 2 hts gX7_lists_X7_sinks rfl rfl rfl (by decide +kernel) ⟨Nat.le_of_ble_eq_true rfl, Nat.le_of_ble_eq_true rfl⟩) (z_preV (q := (RX7, TX7, 20)) hK hL hE hW hS (zK_of g3) (by decide) rfl [.int x4, .int (zI M x0 14)]) rfl rfl hl.1 rfl (lv_room (Nat.le_of_ble_eq_true rfl)) dX7_lists_57 ⟨Nat.le_of_ble_eq_true rfl, Nat.le_of_ble_eq_true rfl⟩) (fun H locs hW hS => ?_)
      refine lv_iinc (k := 1) (v := (x4 + (-1))) (lv' := [(4, .int (x4 + (-1))), (0, .ref (ad x0))]) hx hb dX7_lists_60 hl rfl (by rw [show Int32.ofInt (-1) = (-1 : Int32) from by decide]) (by decide) rfl (fun ls hl => ?_)
      refine lv_goto (tgt := 45) hx hb dX7_lists_63 (by decide) ?_
      exact ih h hW hS (lv_sub hl [1, 0] rfl)
def f_X7_lists_12 (N : Nat) (K len : Nat → Nat) (x0 : Nat) (x1 : Int32) (x2 : Int32) (s0 : Int32) (s1 : Int32) (M : ZM) : Option (ZM) :=
zg (K x0 == 8) (
(if (zI M x0 13) = (s1 + s0) then
some M
else
(f_X7_walks N K len x0 x1 x2 (1 : Int32) M).bind fun M5 => (
zl (zsI M5 x0 13 (s1 + s0)) fun M6 => (
f_X7_lists_45 N K len  N x0 (((zI M6 x0 14) / (2 : Int32)) - (1 : Int32)) M6))))
set_option maxRecDepth 100000 in
set_option maxHeartbeats 4000000 in
theorem t_X7_lists_12 {p : Program} {l : Launch} {e : Env} {s : State} {m : MethodId} {args : Array Value} {below : List Frame} {meth : Method} {c : Code} {D : va_G} {cy : Nat → ClassId} {ad : Nat → Nat} {L : List Nat} {K len : Nat → Nat} (C0 : zCx p s m c meth args cX7_lists 7 wsX7_lists RX7 none D cy ad L K) (N : Nat) {x0 : Nat} {x1 : Int32} {x2 : Int32} {s0 : Int32} {s1 : Int32} {M : ZM} {Mr : ZM} (h : f_X7_lists_12 N K len x0 x1 x2 s0 s1 M = some Mr) {H : Heap} {locs : List Loc} {ls : Array Slot} (hW : zWd D cy ad L K len M H) (hS : va_S (zA ad L s.heap.size) s.heap H locs) (hl : lv_has ls 7 [(0, .ref (ad x0)), (1, .int x1), (2, .int x2)]) : W p l e (headSpec wsX7_lists ({ frames := 4, cells := 0, slots := 0, locals := 102 } : Room)).room s m args below meth c H locs 0 0 (MQ below (zQv D cy ad L K len Mr s.heap.size) args s 0 0 (zA ad L s.heap.size)) (F0 m 12 ls [.int s0, .int s1]) := by
  obtain ⟨hx, hb, hr, hml, hown, hts, hlocks, hK, hL, hE⟩ := id C0
  have hinX7 : ∀ w ∈ wsX70, w ∈ wsX7_lists := by decide +kernel
  unfold f_X7_lists_12 at h
  refine lv_iadd hx hb dX7_lists_12 ?_
  refine lv_istore_n (lv' := [(3, .int (s1 + s0)), (0, .ref (ad x0)), (1, .int x1), (2, .int x2)]) hx hb dX7_lists_13 rfl hl (by decide) rfl (fun ls hl => ?_)
  refine lv_aload_n hx hb dX7_lists_14 rfl (lv_at hl 1 rfl) ?_
  obtain ⟨g1, h⟩ := zg_some h
  refine z_get (own := RX7) (C := RX7) (T := TX7) (N := 20) (ci := 7) hx hb hts hinX7 hown hK hL hW 13 (zK_of g1) rfl (by decide) (by decide) rfl (hts (.fieldLink RX7 38 "ArcLightModel" "listed" "I") (by decide +kernel)) (v := .int (zI M x0 13)) rfl dX7_lists_15 ?_
  refine lv_iload_n hx hb dX7_lists_18 rfl (lv_at hl 0 rfl) ?_
  refine lv_icmp_ne (tgt := 23) hx hb dX7_lists_19 (by decide) (fun c2 => ?_) (fun c2 => ?_)
  · have h := zin c2 h
    refine lv_aload_n hx hb dX7_lists_23 rfl (lv_at hl 1 rfl) ?_
    refine lv_iload_n hx hb dX7_lists_24 rfl (lv_at hl 2 rfl) ?_
    refine lv_iload_n hx hb dX7_lists_25 rfl (lv_at hl 3 rfl) ?_
    refine lv_iconst (v := 1) hx hb dX7_lists_26 (by decide) ?_
    obtain ⟨M5, e4, h⟩ := zb_some h
    refine z_callv hS (va_runV (As := [.int x1, .int x2, .int (1 : Int32)]) (rest := []) ⟨hx, hb, hml, hown, hts⟩ (m_X7_walks l hL N e4 H.size) (cwV 3 hts gX7_lists_X7_walks rfl rfl rfl (by decide +kernel) ⟨Nat.le_of_ble_eq_true rfl, Nat.le_of_ble_eq_true rfl⟩) (z_preV (q := (RX7, TX7, 20)) hK hL hE hW hS (zK_of g1) (by decide) rfl [.int x1, .int x2, .int (1 : Int32)]) rfl rfl hl.1 rfl (lv_room (Nat.le_of_ble_eq_true rfl)) dX7_lists_27 ⟨Nat.le_of_ble_eq_true rfl, Nat.le_of_ble_eq_true rfl⟩) (fun H locs hW hS => ?_)
    refine lv_aload_n hx hb dX7_lists_30 rfl (lv_at hl 1 rfl) ?_
    refine lv_iload_n hx hb dX7_lists_31 rfl (lv_at hl 0 rfl) ?_
    refine z_put (own := RX7) (C := RX7) (T := TX7) (N := 20) (ci := 7) (v := .int (s1 + s0)) (M' := zsI M5 x0 13 (s1 + s0)) hx hb hts hinX7 tyX7 tyX7_ok nmX7 hown hK hL hW hS 13 (zK_of g1) rfl (by decide) (by decide) rfl (hts (.fieldLink RX7 38 "ArcLightModel" "listed" "I") (by decide +kernel)) rfl (ty := .int) (by decide +kernel) rfl rfl (Nat.le_of_ble_eq_true rfl) dX7_lists_32 (zM_I (zK_of g1) (by decide) rfl) (fun H locs hW hS => ?_)
    obtain ⟨M6, eM7, h⟩ := zl_some h
    rw [← eM7] at hW
    refine lv_aload_n hx hb dX7_lists_35 rfl (lv_at hl 1 rfl) ?_
    refine z_get (own := RX7) (C := RX7) (T := TX7) (N := 20) (ci := 7) hx hb hts hinX7 hown hK hL hW 14 (zK_of g1) rfl (by decide) (by decide) rfl (hts (.fieldLink RX7 123 "ArcLightModel" "many" "I") (by decide +kernel)) (v := .int (zI M6 x0 14)) rfl dX7_lists_36 ?_
    refine lv_iconst (v := 2) hx hb dX7_lists_39 (by decide) ?_
    refine lv_idiv hx hb dX7_lists_40 (by decide) ?_
    refine lv_iconst (v := 1) hx hb dX7_lists_41 (by decide) ?_
    refine lv_isub hx hb dX7_lists_42 ?_
    refine lv_istore (lv' := [(4, .int (((zI M6 x0 14) / (2 : Int32)) - (1 : Int32))), (3, .int (s1 + s0)), (0, .ref (ad x0)), (1, .int x1), (2, .int x2)]) hx hb dX7_lists_43 hl (by decide) rfl (fun ls hl => ?_)
    exact t_X7_lists_45 C0 N  N h hW hS (lv_sub hl [2, 0] rfl)
  · have h := zip c2 h
    exact z_vret hx hb hr hlocks hW hS (Option.some.inj h) dX7_lists_22
def f_X7_lists_0 (N : Nat) (K len : Nat → Nat) (x0 : Nat) (x1 : Int32) (x2 : Int32) (M : ZM) : Option (ZM) :=
(if x2 = 0 then
f_X7_lists_12 N K len  x0 x1 x2 (0 : Int32) ((2 : Int32) * x1) M
else
f_X7_lists_12 N K len  x0 x1 x2 (1 : Int32) ((2 : Int32) * x1) M)
set_option maxRecDepth 100000 in
set_option maxHeartbeats 4000000 in
theorem t_X7_lists_0 {p : Program} {l : Launch} {e : Env} {s : State} {m : MethodId} {args : Array Value} {below : List Frame} {meth : Method} {c : Code} {D : va_G} {cy : Nat → ClassId} {ad : Nat → Nat} {L : List Nat} {K len : Nat → Nat} (C0 : zCx p s m c meth args cX7_lists 7 wsX7_lists RX7 none D cy ad L K) (N : Nat) {x0 : Nat} {x1 : Int32} {x2 : Int32} {M : ZM} {Mr : ZM} (h : f_X7_lists_0 N K len x0 x1 x2 M = some Mr) {H : Heap} {locs : List Loc} {ls : Array Slot} (hW : zWd D cy ad L K len M H) (hS : va_S (zA ad L s.heap.size) s.heap H locs) (hl : lv_has ls 7 [(0, .ref (ad x0)), (1, .int x1), (2, .int x2)]) : W p l e (headSpec wsX7_lists ({ frames := 4, cells := 0, slots := 0, locals := 102 } : Room)).room s m args below meth c H locs 0 0 (MQ below (zQv D cy ad L K len Mr s.heap.size) args s 0 0 (zA ad L s.heap.size)) (F0 m 0 ls []) := by
  obtain ⟨hx, hb, hr, hml, hown, hts, hlocks, hK, hL, hE⟩ := id C0
  unfold f_X7_lists_0 at h
  refine lv_iconst (v := 2) hx hb dX7_lists_0 (by decide) ?_
  refine lv_iload_n hx hb dX7_lists_1 rfl (lv_at hl 1 rfl) ?_
  refine lv_imul hx hb dX7_lists_2 ?_
  refine lv_iload_n hx hb dX7_lists_3 rfl (lv_at hl 2 rfl) ?_
  refine lv_if_eq (tgt := 11) hx hb dX7_lists_4 (by decide) (fun c1 => ?_) (fun c1 => ?_)
  · have h := zip c1 h
    refine lv_iconst (v := 0) hx hb dX7_lists_11 (by decide) ?_
    exact t_X7_lists_12 C0 N  h hW hS (lv_sub hl [0, 1, 2] rfl)
  · have h := zin c1 h
    refine lv_iconst (v := 1) hx hb dX7_lists_7 (by decide) ?_
    refine lv_goto (tgt := 12) hx hb dX7_lists_8 (by decide) ?_
    exact t_X7_lists_12 C0 N  h hW hS (lv_sub hl [0, 1, 2] rfl)
def f_X7_lists (N : Nat) (K len : Nat → Nat) (a0 : Nat) (a1 : Int32) (a2 : Int32) (M : ZM) : Option (ZM) := f_X7_lists_0 N K len a0 a1 a2 M
set_option maxRecDepth 100000 in
set_option maxHeartbeats 4000000 in
theorem m_X7_lists (l : Launch) {D : va_G} {cy : Nat → ClassId} {ad : Nat → Nat} {L : List Nat} {K len : Nat → Nat} (hL : zSh ad L K) (N : Nat) {a0 : Nat} {a1 : Int32} {a2 : Int32} {M : ZM} {Mr : ZM} (h : f_X7_lists N K len a0 a1 a2 M = some Mr) (sz : Nat) : Met l yX7_lists wsX7_lists ({ frames := 4, cells := 0, slots := 0, locals := 102 } : Room) (zPre D cy ad L K len sz [.ref (ad a0), .int a1, .int a2] M) (zQv D cy ad L K len Mr sz) 0 0 (zA ad L sz) :=
  z_entry (Qf := fun sz => zQv D cy ad L K len Mr sz) (av := [.ref (ad a0), .int a1, .int a2]) (by decide) rfl rfl hL (Nat.le_of_ble_eq_true rfl) (fun p e s m args below meth c C0 H locs ls hW hS hl => t_X7_lists_0 C0 N h hW hS (lv_sub hl [0, 1, 2] rfl))
def f_X7_scoreIn_0 (N : Nat) (x1 : Int64) : Option (Int32) :=
some ((100000 : Int32) - (x1 >>> ((18 : Int32).toInt64 &&& 63)).toInt32)
set_option maxRecDepth 100000 in
set_option maxHeartbeats 4000000 in
theorem t_X7_scoreIn_0 {p : Program} {l : Launch} {e : Env} {s : State} {m : MethodId} {args : Array Value} {below : List Frame} {meth : Method} {c : Code} {D : va_G} {cy : Nat → ClassId} {ad : Nat → Nat} {L : List Nat} {K len : Nat → Nat} (C0 : zCx p s m c meth args cX7_scoreIn 3 wsX7_scoreIn RX7 (some .int) D cy ad L K) (N : Nat) {x1 : Int64} {M : ZM} {r : Int32} (h : f_X7_scoreIn_0 N x1 = some r) {H : Heap} {locs : List Loc} {ls : Array Slot} (hW : zWd D cy ad L K len M H) (hS : va_S (zA ad L s.heap.size) s.heap H locs) (hl : lv_has ls 3 [(1, .long x1)]) : W p l e (headSpec wsX7_scoreIn ({ frames := 0, cells := 0, slots := 0, locals := 0 } : Room)).room s m args below meth c H locs 0 0 (MQ below (zQi D cy ad L K len r M s.heap.size) args s 0 0 (zA ad L s.heap.size)) (F0 m 0 ls []) := by
  obtain ⟨hx, hb, hr, hml, hown, hts, hlocks, hK, hL, hE⟩ := id C0
  unfold f_X7_scoreIn_0 at h
  refine lv_ldc hx hb hown (hts (.constant RX7 120 (100000)) (by decide +kernel)) dX7_scoreIn_0 ?_
  refine lv_lload_n hx hb dX7_scoreIn_2 rfl (lv_at hl 0 rfl) ?_
  refine lv_bipush (v := 18) hx hb dX7_scoreIn_3 (by decide) ?_
  refine lv_lshr hx hb dX7_scoreIn_5 rfl ?_
  refine lv_l2i hx hb dX7_scoreIn_6 rfl ?_
  refine lv_isub hx hb dX7_scoreIn_7 ?_
  exact z_iret hx hb hr hlocks hW hS (Option.some.inj h) rfl dX7_scoreIn_8
def f_X7_scoreIn (N : Nat) (a0 : Nat) (a1 : Int64) : Option (Int32) := f_X7_scoreIn_0 N a1
set_option maxRecDepth 100000 in
set_option maxHeartbeats 4000000 in
theorem m_X7_scoreIn (l : Launch) {D : va_G} {cy : Nat → ClassId} {ad : Nat → Nat} {L : List Nat} {K len : Nat → Nat} (hL : zSh ad L K) (N : Nat) {a0 : Nat} {a1 : Int64} {M : ZM} {r : Int32} (h : f_X7_scoreIn N a0 a1 = some r) (sz : Nat) : Met l yX7_scoreIn wsX7_scoreIn ({ frames := 0, cells := 0, slots := 0, locals := 0 } : Room) (zPre D cy ad L K len sz [.ref (ad a0), .long a1] M) (zQi D cy ad L K len r M sz) 0 0 (zA ad L sz) :=
  z_entry (Qf := fun sz => zQi D cy ad L K len r M sz) (av := [.ref (ad a0), .long a1]) (by decide) rfl rfl hL (Nat.le_of_ble_eq_true rfl) (fun p e s m args below meth c C0 H locs ls hW hS hl => t_X7_scoreIn_0 C0 N h hW hS (lv_sub hl [1] rfl))
def f_X7_headIn_0 (N : Nat) (K len : Nat → Nat) (x0 : Nat) (x1 : Int32) (x2 : Int64) (x4 : Int32) (M : ZM) : Option (Int32) :=
zg (K x0 == 8) (
(zR M x0 1).bind fun b2 => (
zg (zok K len b2 11 x1) (
some (((x2 >>> (((3 : Int32) * ((zI M b2 x1.toNatClampNeg) - x4)).toInt64 &&& 63)) &&& (7 : Int64)).toInt32))))
set_option maxRecDepth 100000 in
set_option maxHeartbeats 4000000 in
theorem t_X7_headIn_0 {p : Program} {l : Launch} {e : Env} {s : State} {m : MethodId} {args : Array Value} {below : List Frame} {meth : Method} {c : Code} {D : va_G} {cy : Nat → ClassId} {ad : Nat → Nat} {L : List Nat} {K len : Nat → Nat} (C0 : zCx p s m c meth args cX7_headIn 5 wsX7_headIn RX7 (some .int) D cy ad L K) (N : Nat) {x0 : Nat} {x1 : Int32} {x2 : Int64} {x4 : Int32} {M : ZM} {r : Int32} (h : f_X7_headIn_0 N K len x0 x1 x2 x4 M = some r) {H : Heap} {locs : List Loc} {ls : Array Slot} (hW : zWd D cy ad L K len M H) (hS : va_S (zA ad L s.heap.size) s.heap H locs) (hl : lv_has ls 5 [(0, .ref (ad x0)), (1, .int x1), (2, .long x2), (4, .int x4)]) : W p l e (headSpec wsX7_headIn ({ frames := 0, cells := 0, slots := 0, locals := 0 } : Room)).room s m args below meth c H locs 0 0 (MQ below (zQi D cy ad L K len r M s.heap.size) args s 0 0 (zA ad L s.heap.size)) (F0 m 0 ls []) := by
  obtain ⟨hx, hb, hr, hml, hown, hts, hlocks, hK, hL, hE⟩ := id C0
  have hinX7 : ∀ w ∈ wsX70, w ∈ wsX7_headIn := by decide +kernel
  unfold f_X7_headIn_0 at h
  refine lv_lload_n hx hb dX7_headIn_0 rfl (lv_at hl 2 rfl) ?_
  refine lv_iconst (v := 3) hx hb dX7_headIn_1 (by decide) ?_
  refine lv_aload_n hx hb dX7_headIn_2 rfl (lv_at hl 0 rfl) ?_
  obtain ⟨g1, h⟩ := zg_some h
  obtain ⟨b2, e3, h⟩ := zb_some h
  refine z_get (own := RX7) (C := RX7) (T := TX7) (N := 20) (ci := 7) hx hb hts hinX7 hown hK hL hW 1 (zK_of g1) rfl (by decide) (by decide) rfl (hts (.fieldLink RX7 7 "ArcLightModel" "words" "[I") (by decide +kernel)) (v := .ref (ad b2)) (zhvR e3 rfl) dX7_headIn_3 ?_
  refine lv_iload_n hx hb dX7_headIn_6 rfl (lv_at hl 1 rfl) ?_
  obtain ⟨g4, h⟩ := zg_some h
  refine z_iald hx hb hK hL hW g4 dX7_headIn_7 ?_
  refine lv_iload hx hb dX7_headIn_8 (lv_at hl 3 rfl) ?_
  refine lv_isub hx hb dX7_headIn_10 ?_
  refine lv_imul hx hb dX7_headIn_11 ?_
  refine lv_lshr hx hb dX7_headIn_12 rfl ?_
  refine lv_ldc2 hx hb hown (hts (.constantLong RX7 142 (7)) (by decide +kernel)) dX7_headIn_13 ?_
  refine lv_land hx hb dX7_headIn_16 ?_
  refine lv_l2i hx hb dX7_headIn_17 rfl ?_
  exact z_iret hx hb hr hlocks hW hS (Option.some.inj h) rfl dX7_headIn_18
def f_X7_headIn (N : Nat) (K len : Nat → Nat) (a0 : Nat) (a1 : Int32) (a2 : Int64) (a4 : Int32) (M : ZM) : Option (Int32) := f_X7_headIn_0 N K len a0 a1 a2 a4 M
set_option maxRecDepth 100000 in
set_option maxHeartbeats 4000000 in
theorem m_X7_headIn (l : Launch) {D : va_G} {cy : Nat → ClassId} {ad : Nat → Nat} {L : List Nat} {K len : Nat → Nat} (hL : zSh ad L K) (N : Nat) {a0 : Nat} {a1 : Int32} {a2 : Int64} {a4 : Int32} {M : ZM} {r : Int32} (h : f_X7_headIn N K len a0 a1 a2 a4 M = some r) (sz : Nat) : Met l yX7_headIn wsX7_headIn ({ frames := 0, cells := 0, slots := 0, locals := 0 } : Room) (zPre D cy ad L K len sz [.ref (ad a0), .int a1, .long a2, .int a4] M) (zQi D cy ad L K len r M sz) 0 0 (zA ad L sz) :=
  z_entry (Qf := fun sz => zQi D cy ad L K len r M sz) (av := [.ref (ad a0), .int a1, .long a2, .int a4]) (by decide) rfl rfl hL (Nat.le_of_ble_eq_true rfl) (fun p e s m args below meth c C0 H locs ls hW hS hl => t_X7_headIn_0 C0 N h hW hS (lv_sub hl [0, 1, 2, 3] rfl))
def f_X7_trees_0 (N : Nat) (K len : Nat → Nat) (x0 : Nat) (x1 : Int32) (x2 : Int32) (M : ZM) : Option (Int32 × ZM) :=
(f_X7_isSentence N K len x0 x1 M).bind fun q1 => (
zg (K x0 == 8) (
zbp (f_X7_asks N K len x0 q1 M) fun q4 M6 => (
(if q4 = 0 then
some ((0 : Int32), M6)
else
(zR M6 x0 16).bind fun b8 => (
zbp (f_X7_finds N K len x0 x1 x2 M6) fun q10 M12 => (
zg (zok K len b8 11 q10) (
some ((zI M12 b8 q10.toNatClampNeg), M12))))))))
set_option maxRecDepth 100000 in
set_option maxHeartbeats 4000000 in
theorem t_X7_trees_0 {p : Program} {l : Launch} {e : Env} {s : State} {m : MethodId} {args : Array Value} {below : List Frame} {meth : Method} {c : Code} {D : va_G} {cy : Nat → ClassId} {ad : Nat → Nat} {L : List Nat} {K len : Nat → Nat} (C0 : zCx p s m c meth args cX7_trees 3 wsX7_trees RX7 (some .int) D cy ad L K) (N : Nat) {x0 : Nat} {x1 : Int32} {x2 : Int32} {M : ZM} {r : Int32} {Mr : ZM} (h : f_X7_trees_0 N K len x0 x1 x2 M = some (r, Mr)) {H : Heap} {locs : List Loc} {ls : Array Slot} (hW : zWd D cy ad L K len M H) (hS : va_S (zA ad L s.heap.size) s.heap H locs) (hl : lv_has ls 3 [(0, .ref (ad x0)), (1, .int x1), (2, .int x2)]) : W p l e (headSpec wsX7_trees ({ frames := 5, cells := 0, slots := 0, locals := 125 } : Room)).room s m args below meth c H locs 0 0 (MQ below (zQi D cy ad L K len r Mr s.heap.size) args s 0 0 (zA ad L s.heap.size)) (F0 m 0 ls []) := by
  obtain ⟨hx, hb, hr, hml, hown, hts, hlocks, hK, hL, hE⟩ := id C0
  have hinX7 : ∀ w ∈ wsX70, w ∈ wsX7_trees := by decide +kernel
  unfold f_X7_trees_0 at h
  refine lv_aload_n hx hb dX7_trees_0 rfl (lv_at hl 0 rfl) ?_
  refine lv_aload_n hx hb dX7_trees_1 rfl (lv_at hl 0 rfl) ?_
  refine lv_iload_n hx hb dX7_trees_2 rfl (lv_at hl 1 rfl) ?_
  obtain ⟨q1, e2, h⟩ := zb_some h
  obtain ⟨g3, h⟩ := zg_some h
  refine z_calli hS (va_runV (As := [.int x1]) (rest := [.ref (ad x0)]) ⟨hx, hb, hml, hown, hts⟩ (m_X7_isSentence l hL N e2 H.size) (cwV 1 hts gX7_trees_X7_isSentence rfl rfl rfl (by decide +kernel) ⟨Nat.le_of_ble_eq_true rfl, Nat.le_of_ble_eq_true rfl⟩) (z_preV (q := (RX7, TX7, 20)) hK hL hE hW hS (zK_of g3) (by decide) rfl [.int x1]) rfl rfl hl.1 rfl (lv_room (Nat.le_of_ble_eq_true rfl)) dX7_trees_3 ⟨Nat.le_of_ble_eq_true rfl, Nat.le_of_ble_eq_true rfl⟩) (fun H locs hW hS => ?_)
  obtain ⟨q4, M6, e5, h⟩ := zbp_some h
  refine z_calli hS (va_runV (As := [.int q1]) (rest := []) ⟨hx, hb, hml, hown, hts⟩ (m_X7_asks l hL N e5 H.size) (cwV 1 hts gX7_trees_X7_asks rfl rfl rfl (by decide +kernel) ⟨Nat.le_of_ble_eq_true rfl, Nat.le_of_ble_eq_true rfl⟩) (z_preV (q := (RX7, TX7, 20)) hK hL hE hW hS (zK_of g3) (by decide) rfl [.int q1]) rfl rfl hl.1 rfl (lv_room (Nat.le_of_ble_eq_true rfl)) dX7_trees_6 ⟨Nat.le_of_ble_eq_true rfl, Nat.le_of_ble_eq_true rfl⟩) (fun H locs hW hS => ?_)
  refine lv_if_eq (tgt := 26) hx hb dX7_trees_9 (by decide) (fun c7 => ?_) (fun c7 => ?_)
  · have h := zip c7 h
    refine lv_iconst (v := 0) hx hb dX7_trees_26 (by decide) ?_
    exact z_iret hx hb hr hlocks hW hS (congrArg Prod.fst (Option.some.inj h)) (congrArg Prod.snd (Option.some.inj h)) dX7_trees_27
  · have h := zin c7 h
    refine lv_aload_n hx hb dX7_trees_12 rfl (lv_at hl 0 rfl) ?_
    obtain ⟨b8, e9, h⟩ := zb_some h
    refine z_get (own := RX7) (C := RX7) (T := TX7) (N := 20) (ci := 7) hx hb hts hinX7 hown hK hL hW 16 (zK_of g3) rfl (by decide) (by decide) rfl (hts (.fieldLink RX7 45 "ArcLightModel" "count" "[I") (by decide +kernel)) (v := .ref (ad b8)) (zhvR e9 rfl) dX7_trees_13 ?_
    refine lv_aload_n hx hb dX7_trees_16 rfl (lv_at hl 0 rfl) ?_
    refine lv_iload_n hx hb dX7_trees_17 rfl (lv_at hl 1 rfl) ?_
    refine lv_iload_n hx hb dX7_trees_18 rfl (lv_at hl 2 rfl) ?_
    obtain ⟨q10, M12, e11, h⟩ := zbp_some h
    refine z_calli hS (va_runV (As := [.int x1, .int x2]) (rest := [.ref (ad b8)]) ⟨hx, hb, hml, hown, hts⟩ (m_X7_finds l hL N e11 H.size) (cwV 2 hts gX7_trees_X7_finds rfl rfl rfl (by decide +kernel) ⟨Nat.le_of_ble_eq_true rfl, Nat.le_of_ble_eq_true rfl⟩) (z_preV (q := (RX7, TX7, 20)) hK hL hE hW hS (zK_of g3) (by decide) rfl [.int x1, .int x2]) rfl rfl hl.1 rfl (lv_room (Nat.le_of_ble_eq_true rfl)) dX7_trees_19 ⟨Nat.le_of_ble_eq_true rfl, Nat.le_of_ble_eq_true rfl⟩) (fun H locs hW hS => ?_)
    obtain ⟨g13, h⟩ := zg_some h
    refine z_iald hx hb hK hL hW g13 dX7_trees_22 ?_
    refine lv_goto (tgt := 27) hx hb dX7_trees_23 (by decide) ?_
    exact z_iret hx hb hr hlocks hW hS (congrArg Prod.fst (Option.some.inj h)) (congrArg Prod.snd (Option.some.inj h)) dX7_trees_27
def f_X7_trees (N : Nat) (K len : Nat → Nat) (a0 : Nat) (a1 : Int32) (a2 : Int32) (M : ZM) : Option (Int32 × ZM) := f_X7_trees_0 N K len a0 a1 a2 M
set_option maxRecDepth 100000 in
set_option maxHeartbeats 4000000 in
theorem m_X7_trees (l : Launch) {D : va_G} {cy : Nat → ClassId} {ad : Nat → Nat} {L : List Nat} {K len : Nat → Nat} (hL : zSh ad L K) (N : Nat) {a0 : Nat} {a1 : Int32} {a2 : Int32} {M : ZM} {r : Int32} {Mr : ZM} (h : f_X7_trees N K len a0 a1 a2 M = some (r, Mr)) (sz : Nat) : Met l yX7_trees wsX7_trees ({ frames := 5, cells := 0, slots := 0, locals := 125 } : Room) (zPre D cy ad L K len sz [.ref (ad a0), .int a1, .int a2] M) (zQi D cy ad L K len r Mr sz) 0 0 (zA ad L sz) :=
  z_entry (Qf := fun sz => zQi D cy ad L K len r Mr sz) (av := [.ref (ad a0), .int a1, .int a2]) (by decide) rfl rfl hL (Nat.le_of_ble_eq_true rfl) (fun p e s m args below meth c C0 H locs ls hW hS hl => t_X7_trees_0 C0 N h hW hS (lv_sub hl [0, 1, 2] rfl))
def f_X7_asksTree_34 (N : Nat) (K len : Nat → Nat) (x0 : Nat) (s0 : Int32) (s1 : Nat) (M : ZM) : Option (Int32 × ZM) :=
zg (K s1 == 8) (
zl (zsI M s1 19 s0) fun M2 => (
zg (K x0 == 8) (
(if (zI M2 x0 19) = 0 then
some ((1 : Int32), M2)
else
some ((0 : Int32), M2)))))
set_option maxRecDepth 100000 in
set_option maxHeartbeats 4000000 in
theorem t_X7_asksTree_34 {p : Program} {l : Launch} {e : Env} {s : State} {m : MethodId} {args : Array Value} {below : List Frame} {meth : Method} {c : Code} {D : va_G} {cy : Nat → ClassId} {ad : Nat → Nat} {L : List Nat} {K len : Nat → Nat} (C0 : zCx p s m c meth args cX7_asksTree 3 wsX7_asksTree RX7 (some .boolean) D cy ad L K) (N : Nat) {x0 : Nat} {s0 : Int32} {s1 : Nat} {M : ZM} {r : Int32} {Mr : ZM} (h : f_X7_asksTree_34 N K len x0 s0 s1 M = some (r, Mr)) {H : Heap} {locs : List Loc} {ls : Array Slot} (hW : zWd D cy ad L K len M H) (hS : va_S (zA ad L s.heap.size) s.heap H locs) (hl : lv_has ls 3 [(0, .ref (ad x0))]) : W p l e (headSpec wsX7_asksTree ({ frames := 5, cells := 0, slots := 0, locals := 125 } : Room)).room s m args below meth c H locs 0 0 (MQ below (zQi D cy ad L K len r Mr s.heap.size) args s 0 0 (zA ad L s.heap.size)) (F0 m 34 ls [.int s0, .ref (ad s1)]) := by
  obtain ⟨hx, hb, hr, hml, hown, hts, hlocks, hK, hL, hE⟩ := id C0
  have hinX7 : ∀ w ∈ wsX70, w ∈ wsX7_asksTree := by decide +kernel
  unfold f_X7_asksTree_34 at h
  obtain ⟨g1, h⟩ := zg_some h
  refine z_put (own := RX7) (C := RX7) (T := TX7) (N := 20) (ci := 7) (v := .int s0) (M' := zsI M s1 19 s0) hx hb hts hinX7 tyX7 tyX7_ok nmX7 hown hK hL hW hS 19 (zK_of g1) rfl (by decide) (by decide) rfl (hts (.fieldLink RX7 55 "ArcLightModel" "thrown" "I") (by decide +kernel)) rfl (ty := .int) (by decide +kernel) rfl rfl (Nat.le_of_ble_eq_true rfl) dX7_asksTree_34 (zM_I (zK_of g1) (by decide) rfl) (fun H locs hW hS => ?_)
  obtain ⟨M2, eM3, h⟩ := zl_some h
  rw [← eM3] at hW
  refine lv_aload_n hx hb dX7_asksTree_37 rfl (lv_at hl 0 rfl) ?_
  obtain ⟨g4, h⟩ := zg_some h
  refine z_get (own := RX7) (C := RX7) (T := TX7) (N := 20) (ci := 7) hx hb hts hinX7 hown hK hL hW 19 (zK_of g4) rfl (by decide) (by decide) rfl (hts (.fieldLink RX7 55 "ArcLightModel" "thrown" "I") (by decide +kernel)) (v := .int (zI M2 x0 19)) rfl dX7_asksTree_38 ?_
  refine lv_if_ne (tgt := 48) hx hb dX7_asksTree_41 (by decide) (fun c5 => ?_) (fun c5 => ?_)
  · have h := zin c5 h
    refine lv_iconst (v := 0) hx hb dX7_asksTree_48 (by decide) ?_
    exact z_zret hx hb hr hlocks hW hS (by decide) (congrArg Prod.fst (Option.some.inj h)) (congrArg Prod.snd (Option.some.inj h)) dX7_asksTree_49
  · have h := zip c5 h
    refine lv_iconst (v := 1) hx hb dX7_asksTree_44 (by decide) ?_
    refine lv_goto (tgt := 49) hx hb dX7_asksTree_45 (by decide) ?_
    exact z_zret hx hb hr hlocks hW hS (by decide) (congrArg Prod.fst (Option.some.inj h)) (congrArg Prod.snd (Option.some.inj h)) dX7_asksTree_49
def f_X7_asksTree_0 (N : Nat) (K len : Nat → Nat) (x0 : Nat) (x1 : Int32) (x2 : Int32) (M : ZM) : Option (Int32 × ZM) :=
(f_X7_isSentence N K len x0 x1 M).bind fun q1 => (
zg (K x0 == 8) (
zbp (f_X7_asks N K len x0 q1 M) fun q4 M6 => (
(if q4 = 0 then
some ((0 : Int32), M6)
else
(zR M6 x0 16).bind fun b8 => (
zbp (f_X7_finds N K len x0 x1 x2 M6) fun q10 M12 => (
zg (zok K len b8 11 q10) (
(if (zI M12 b8 q10.toNatClampNeg) = 0 then
f_X7_asksTree_34 N K len  x0 (2 : Int32) x0 M12
else
f_X7_asksTree_34 N K len  x0 (0 : Int32) x0 M12))))))))
set_option maxRecDepth 100000 in
set_option maxHeartbeats 4000000 in
theorem t_X7_asksTree_0 {p : Program} {l : Launch} {e : Env} {s : State} {m : MethodId} {args : Array Value} {below : List Frame} {meth : Method} {c : Code} {D : va_G} {cy : Nat → ClassId} {ad : Nat → Nat} {L : List Nat} {K len : Nat → Nat} (C0 : zCx p s m c meth args cX7_asksTree 3 wsX7_asksTree RX7 (some .boolean) D cy ad L K) (N : Nat) {x0 : Nat} {x1 : Int32} {x2 : Int32} {M : ZM} {r : Int32} {Mr : ZM} (h : f_X7_asksTree_0 N K len x0 x1 x2 M = some (r, Mr)) {H : Heap} {locs : List Loc} {ls : Array Slot} (hW : zWd D cy ad L K len M H) (hS : va_S (zA ad L s.heap.size) s.heap H locs) (hl : lv_has ls 3 [(0, .ref (ad x0)), (1, .int x1), (2, .int x2)]) : W p l e (headSpec wsX7_asksTree ({ frames := 5, cells := 0, slots := 0, locals := 125 } : Room)).room s m args below meth c H locs 0 0 (MQ below (zQi D cy ad L K len r Mr s.heap.size) args s 0 0 (zA ad L s.heap.size)) (F0 m 0 ls []) := by
  obtain ⟨hx, hb, hr, hml, hown, hts, hlocks, hK, hL, hE⟩ := id C0
  have hinX7 : ∀ w ∈ wsX70, w ∈ wsX7_asksTree := by decide +kernel
  unfold f_X7_asksTree_0 at h
  refine lv_aload_n hx hb dX7_asksTree_0 rfl (lv_at hl 0 rfl) ?_
  refine lv_aload_n hx hb dX7_asksTree_1 rfl (lv_at hl 0 rfl) ?_
  refine lv_iload_n hx hb dX7_asksTree_2 rfl (lv_at hl 1 rfl) ?_
  obtain ⟨q1, e2, h⟩ := zb_some h
  obtain ⟨g3, h⟩ := zg_some h
  refine z_calli hS (va_runV (As := [.int x1]) (rest := [.ref (ad x0)]) ⟨hx, hb, hml, hown, hts⟩ (m_X7_isSentence l hL N e2 H.size) (cwV 1 hts gX7_asksTree_X7_isSentence rfl rfl rfl (by decide +kernel) ⟨Nat.le_of_ble_eq_true rfl, Nat.le_of_ble_eq_true rfl⟩) (z_preV (q := (RX7, TX7, 20)) hK hL hE hW hS (zK_of g3) (by decide) rfl [.int x1]) rfl rfl hl.1 rfl (lv_room (Nat.le_of_ble_eq_true rfl)) dX7_asksTree_3 ⟨Nat.le_of_ble_eq_true rfl, Nat.le_of_ble_eq_true rfl⟩) (fun H locs hW hS => ?_)
  obtain ⟨q4, M6, e5, h⟩ := zbp_some h
  refine z_calli hS (va_runV (As := [.int q1]) (rest := []) ⟨hx, hb, hml, hown, hts⟩ (m_X7_asks l hL N e5 H.size) (cwV 1 hts gX7_asksTree_X7_asks rfl rfl rfl (by decide +kernel) ⟨Nat.le_of_ble_eq_true rfl, Nat.le_of_ble_eq_true rfl⟩) (z_preV (q := (RX7, TX7, 20)) hK hL hE hW hS (zK_of g3) (by decide) rfl [.int q1]) rfl rfl hl.1 rfl (lv_room (Nat.le_of_ble_eq_true rfl)) dX7_asksTree_6 ⟨Nat.le_of_ble_eq_true rfl, Nat.le_of_ble_eq_true rfl⟩) (fun H locs hW hS => ?_)
  refine lv_if_ne (tgt := 14) hx hb dX7_asksTree_9 (by decide) (fun c7 => ?_) (fun c7 => ?_)
  · have h := zin c7 h
    refine lv_aload_n hx hb dX7_asksTree_14 rfl (lv_at hl 0 rfl) ?_
    refine lv_aload_n hx hb dX7_asksTree_15 rfl (lv_at hl 0 rfl) ?_
    obtain ⟨b8, e9, h⟩ := zb_some h
    refine z_get (own := RX7) (C := RX7) (T := TX7) (N := 20) (ci := 7) hx hb hts hinX7 hown hK hL hW 16 (zK_of g3) rfl (by decide) (by decide) rfl (hts (.fieldLink RX7 45 "ArcLightModel" "count" "[I") (by decide +kernel)) (v := .ref (ad b8)) (zhvR e9 rfl) dX7_asksTree_16 ?_
    refine lv_aload_n hx hb dX7_asksTree_19 rfl (lv_at hl 0 rfl) ?_
    refine lv_iload_n hx hb dX7_asksTree_20 rfl (lv_at hl 1 rfl) ?_
    refine lv_iload_n hx hb dX7_asksTree_21 rfl (lv_at hl 2 rfl) ?_
    obtain ⟨q10, M12, e11, h⟩ := zbp_some h
    refine z_calli hS (va_runV (As := [.int x1, .int x2]) (rest := [.ref (ad b8), .ref (ad x0)]) ⟨hx, hb, hml, hown, hts⟩ (m_X7_finds l hL N e11 H.size) (cwV 2 hts gX7_asksTree_X7_finds rfl rfl rfl (by decide +kernel) ⟨Nat.le_of_ble_eq_true rfl, Nat.le_of_ble_eq_true rfl⟩) (z_preV (q := (RX7, TX7, 20)) hK hL hE hW hS (zK_of g3) (by decide) rfl [.int x1, .int x2]) rfl rfl hl.1 rfl (lv_room (Nat.le_of_ble_eq_true rfl)) dX7_asksTree_22 ⟨Nat.le_of_ble_eq_true rfl, Nat.le_of_ble_eq_true rfl⟩) (fun H locs hW hS => ?_)
    obtain ⟨g13, h⟩ := zg_some h
    refine z_iald hx hb hK hL hW g13 dX7_asksTree_25 ?_
    refine lv_if_ne (tgt := 33) hx hb dX7_asksTree_26 (by decide) (fun c14 => ?_) (fun c14 => ?_)
    · have h := zin c14 h
      refine lv_iconst (v := 0) hx hb dX7_asksTree_33 (by decide) ?_
      exact t_X7_asksTree_34 C0 N  h hW hS (lv_sub hl [0] rfl)
    · have h := zip c14 h
      refine lv_iconst (v := 2) hx hb dX7_asksTree_29 (by decide) ?_
      refine lv_goto (tgt := 34) hx hb dX7_asksTree_30 (by decide) ?_
      exact t_X7_asksTree_34 C0 N  h hW hS (lv_sub hl [0] rfl)
  · have h := zip c7 h
    refine lv_iconst (v := 0) hx hb dX7_asksTree_12 (by decide) ?_
    exact z_zret hx hb hr hlocks hW hS (by decide) (congrArg Prod.fst (Option.some.inj h)) (congrArg Prod.snd (Option.some.inj h)) dX7_asksTree_13
def f_X7_asksTree (N : Nat) (K len : Nat → Nat) (a0 : Nat) (a1 : Int32) (a2 : Int32) (M : ZM) : Option (Int32 × ZM) := f_X7_asksTree_0 N K len a0 a1 a2 M
set_option maxRecDepth 100000 in
set_option maxHeartbeats 4000000 in
theorem m_X7_asksTree (l : Launch) {D : va_G} {cy : Nat → ClassId} {ad : Nat → Nat} {L : List Nat} {K len : Nat → Nat} (hL : zSh ad L K) (N : Nat) {a0 : Nat} {a1 : Int32} {a2 : Int32} {M : ZM} {r : Int32} {Mr : ZM} (h : f_X7_asksTree N K len a0 a1 a2 M = some (r, Mr)) (sz : Nat) : Met l yX7_asksTree wsX7_asksTree ({ frames := 5, cells := 0, slots := 0, locals := 125 } : Room) (zPre D cy ad L K len sz [.ref (ad a0), .int a1, .int a2] M) (zQi D cy ad L K len r Mr sz) 0 0 (zA ad L sz) :=
  z_entry (Qf := fun sz => zQi D cy ad L K len r Mr sz) (av := [.ref (ad a0), .int a1, .int a2]) (by decide) rfl rfl hL (Nat.le_of_ble_eq_true rfl) (fun p e s m args below meth c C0 H locs ls hW hS hl => t_X7_asksTree_0 C0 N h hW hS (lv_sub hl [0, 1, 2] rfl))
def f_X7_best_0 (N : Nat) (K len : Nat → Nat) (x0 : Nat) (x1 : Int32) (x2 : Int32) (M : ZM) : Option (Int32 × ZM) :=
zbp (f_X7_asksTree N K len x0 x1 x2 M) fun q1 M3 => (
zg (K x0 == 8) (
(if q1 = 0 then
some ((0 : Int32), M3)
else
(zR M3 x0 15).bind fun b6 => (
zbp (f_X7_finds N K len x0 x1 x2 M3) fun q8 M10 => (
zg (zok K len b6 12 q8) (
(f_X7_scoreIn N x0 (zJ M10 b6 q8.toNatClampNeg)).bind fun q12 => (
some (q12, M10))))))))
set_option maxRecDepth 100000 in
set_option maxHeartbeats 4000000 in
theorem t_X7_best_0 {p : Program} {l : Launch} {e : Env} {s : State} {m : MethodId} {args : Array Value} {below : List Frame} {meth : Method} {c : Code} {D : va_G} {cy : Nat → ClassId} {ad : Nat → Nat} {L : List Nat} {K len : Nat → Nat} (C0 : zCx p s m c meth args cX7_best 3 wsX7_best RX7 (some .int) D cy ad L K) (N : Nat) {x0 : Nat} {x1 : Int32} {x2 : Int32} {M : ZM} {r : Int32} {Mr : ZM} (h : f_X7_best_0 N K len x0 x1 x2 M = some (r, Mr)) {H : Heap} {locs : List Loc} {ls : Array Slot} (hW : zWd D cy ad L K len M H) (hS : va_S (zA ad L s.heap.size) s.heap H locs) (hl : lv_has ls 3 [(0, .ref (ad x0)), (1, .int x1), (2, .int x2)]) : W p l e (headSpec wsX7_best ({ frames := 6, cells := 0, slots := 0, locals := 147 } : Room)).room s m args below meth c H locs 0 0 (MQ below (zQi D cy ad L K len r Mr s.heap.size) args s 0 0 (zA ad L s.heap.size)) (F0 m 0 ls []) := by
  obtain ⟨hx, hb, hr, hml, hown, hts, hlocks, hK, hL, hE⟩ := id C0
  have hinX7 : ∀ w ∈ wsX70, w ∈ wsX7_best := by decide +kernel
  unfold f_X7_best_0 at h
  refine lv_aload_n hx hb dX7_best_0 rfl (lv_at hl 0 rfl) ?_
  refine lv_iload_n hx hb dX7_best_1 rfl (lv_at hl 1 rfl) ?_
  refine lv_iload_n hx hb dX7_best_2 rfl (lv_at hl 2 rfl) ?_
  obtain ⟨q1, M3, e2, h⟩ := zbp_some h
  obtain ⟨g4, h⟩ := zg_some h
  refine z_calli hS (va_runV (As := [.int x1, .int x2]) (rest := []) ⟨hx, hb, hml, hown, hts⟩ (m_X7_asksTree l hL N e2 H.size) (cwV 2 hts gX7_best_X7_asksTree rfl rfl rfl (by decide +kernel) ⟨Nat.le_of_ble_eq_true rfl, Nat.le_of_ble_eq_true rfl⟩) (z_preV (q := (RX7, TX7, 20)) hK hL hE hW hS (zK_of g4) (by decide) rfl [.int x1, .int x2]) rfl rfl hl.1 rfl (lv_room (Nat.le_of_ble_eq_true rfl)) dX7_best_3 ⟨Nat.le_of_ble_eq_true rfl, Nat.le_of_ble_eq_true rfl⟩) (fun H locs hW hS => ?_)
  refine lv_if_eq (tgt := 27) hx hb dX7_best_6 (by decide) (fun c5 => ?_) (fun c5 => ?_)
  · have h := zip c5 h
    refine lv_iconst (v := 0) hx hb dX7_best_27 (by decide) ?_
    exact z_iret hx hb hr hlocks hW hS (congrArg Prod.fst (Option.some.inj h)) (congrArg Prod.snd (Option.some.inj h)) dX7_best_28
  · have h := zin c5 h
    refine lv_aload_n hx hb dX7_best_9 rfl (lv_at hl 0 rfl) ?_
    refine lv_aload_n hx hb dX7_best_10 rfl (lv_at hl 0 rfl) ?_
    obtain ⟨b6, e7, h⟩ := zb_some h
    refine z_get (own := RX7) (C := RX7) (T := TX7) (N := 20) (ci := 7) hx hb hts hinX7 hown hK hL hW 15 (zK_of g4) rfl (by decide) (by decide) rfl (hts (.fieldLink RX7 42 "ArcLightModel" "bestKey" "[J") (by decide +kernel)) (v := .ref (ad b6)) (zhvR e7 rfl) dX7_best_11 ?_
    refine lv_aload_n hx hb dX7_best_14 rfl (lv_at hl 0 rfl) ?_
    refine lv_iload_n hx hb dX7_best_15 rfl (lv_at hl 1 rfl) ?_
    refine lv_iload_n hx hb dX7_best_16 rfl (lv_at hl 2 rfl) ?_
    obtain ⟨q8, M10, e9, h⟩ := zbp_some h
    refine z_calli hS (va_runV (As := [.int x1, .int x2]) (rest := [.ref (ad b6), .ref (ad x0)]) ⟨hx, hb, hml, hown, hts⟩ (m_X7_finds l hL N e9 H.size) (cwV 2 hts gX7_best_X7_finds rfl rfl rfl (by decide +kernel) ⟨Nat.le_of_ble_eq_true rfl, Nat.le_of_ble_eq_true rfl⟩) (z_preV (q := (RX7, TX7, 20)) hK hL hE hW hS (zK_of g4) (by decide) rfl [.int x1, .int x2]) rfl rfl hl.1 rfl (lv_room (Nat.le_of_ble_eq_true rfl)) dX7_best_17 ⟨Nat.le_of_ble_eq_true rfl, Nat.le_of_ble_eq_true rfl⟩) (fun H locs hW hS => ?_)
    obtain ⟨g11, h⟩ := zg_some h
    refine z_lald hx hb hK hL hW g11 dX7_best_20 ?_
    obtain ⟨q12, e13, h⟩ := zb_some h
    refine z_calli hS (va_runV (As := [.long (zJ M10 b6 q8.toNatClampNeg)]) (rest := []) ⟨hx, hb, hml, hown, hts⟩ (m_X7_scoreIn l (M := M10) hL N e13 H.size) (cwV 1 hts gX7_best_X7_scoreIn rfl rfl rfl (by decide +kernel) ⟨Nat.le_of_ble_eq_true rfl, Nat.le_of_ble_eq_true rfl⟩) (z_preV (q := (RX7, TX7, 20)) hK hL hE hW hS (zK_of g4) (by decide) rfl [.long (zJ M10 b6 q8.toNatClampNeg)]) rfl rfl hl.1 rfl (lv_room (Nat.le_of_ble_eq_true rfl)) dX7_best_21 ⟨Nat.le_of_ble_eq_true rfl, Nat.le_of_ble_eq_true rfl⟩) (fun H locs hW hS => ?_)
    refine lv_goto (tgt := 28) hx hb dX7_best_24 (by decide) ?_
    exact z_iret hx hb hr hlocks hW hS (congrArg Prod.fst (Option.some.inj h)) (congrArg Prod.snd (Option.some.inj h)) dX7_best_28
def f_X7_best (N : Nat) (K len : Nat → Nat) (a0 : Nat) (a1 : Int32) (a2 : Int32) (M : ZM) : Option (Int32 × ZM) := f_X7_best_0 N K len a0 a1 a2 M
set_option maxRecDepth 100000 in
set_option maxHeartbeats 4000000 in
theorem m_X7_best (l : Launch) {D : va_G} {cy : Nat → ClassId} {ad : Nat → Nat} {L : List Nat} {K len : Nat → Nat} (hL : zSh ad L K) (N : Nat) {a0 : Nat} {a1 : Int32} {a2 : Int32} {M : ZM} {r : Int32} {Mr : ZM} (h : f_X7_best N K len a0 a1 a2 M = some (r, Mr)) (sz : Nat) : Met l yX7_best wsX7_best ({ frames := 6, cells := 0, slots := 0, locals := 147 } : Room) (zPre D cy ad L K len sz [.ref (ad a0), .int a1, .int a2] M) (zQi D cy ad L K len r Mr sz) 0 0 (zA ad L sz) :=
  z_entry (Qf := fun sz => zQi D cy ad L K len r Mr sz) (av := [.ref (ad a0), .int a1, .int a2]) (by decide) rfl rfl hL (Nat.le_of_ble_eq_true rfl) (fun p e s m args below meth c C0 H locs ls hW hS hl => t_X7_best_0 C0 N h hW hS (lv_sub hl [0, 1, 2] rfl))
def f_X7_bestByTrying_0 (N : Nat) (K len : Nat → Nat) (x0 : Nat) (x1 : Int32) (x2 : Int32) (M : ZM) : Option (Int32 × ZM) :=
zbp (f_X7_asksTree N K len x0 x1 x2 M) fun q1 M3 => (
zg (K x0 == 8) (
(if q1 = 0 then
some ((0 : Int32), M3)
else
(zR M3 x0 15).bind fun b6 => (
zbp (f_X7_finds N K len x0 x1 x2 M3) fun q8 M10 => (
zg (zok K len b6 12 q8) (
(f_X7_scoreIn N x0 (zJ M10 b6 q8.toNatClampNeg)).bind fun q12 => (
some (q12, M10))))))))
set_option maxRecDepth 100000 in
set_option maxHeartbeats 4000000 in
theorem t_X7_bestByTrying_0 {p : Program} {l : Launch} {e : Env} {s : State} {m : MethodId} {args : Array Value} {below : List Frame} {meth : Method} {c : Code} {D : va_G} {cy : Nat → ClassId} {ad : Nat → Nat} {L : List Nat} {K len : Nat → Nat} (C0 : zCx p s m c meth args cX7_bestByTrying 3 wsX7_bestByTrying RX7 (some .int) D cy ad L K) (N : Nat) {x0 : Nat} {x1 : Int32} {x2 : Int32} {M : ZM} {r : Int32} {Mr : ZM} (h : f_X7_bestByTrying_0 N K len x0 x1 x2 M = some (r, Mr)) {H : Heap} {locs : List Loc} {ls : Array Slot} (hW : zWd D cy ad L K len M H) (hS : va_S (zA ad L s.heap.size) s.heap H locs) (hl : lv_has ls 3 [(0, .ref (ad x0)), (1, .int x1), (2, .int x2)]) : W p l e (headSpec wsX7_bestByTrying ({ frames := 6, cells := 0, slots := 0, locals := 147 } : Room)).room s m args below meth c H locs 0 0 (MQ below (zQi D cy ad L K len r Mr s.heap.size) args s 0 0 (zA ad L s.heap.size)) (F0 m 0 ls []) := by
  obtain ⟨hx, hb, hr, hml, hown, hts, hlocks, hK, hL, hE⟩ := id C0
  have hinX7 : ∀ w ∈ wsX70, w ∈ wsX7_bestByTrying := by decide +kernel
  unfold f_X7_bestByTrying_0 at h
  refine lv_aload_n hx hb dX7_bestByTrying_0 rfl (lv_at hl 0 rfl) ?_
  refine lv_iload_n hx hb dX7_bestByTrying_1 rfl (lv_at hl 1 rfl) ?_
  refine lv_iload_n hx hb dX7_bestByTrying_2 rfl (lv_at hl 2 rfl) ?_
  obtain ⟨q1, M3, e2, h⟩ := zbp_some h
  obtain ⟨g4, h⟩ := zg_some h
  refine z_calli hS (va_runV (As := [.int x1, .int x2]) (rest := []) ⟨hx, hb, hml, hown, hts⟩ (m_X7_asksTree l hL N e2 H.size) (cwV 2 hts gX7_bestByTrying_X7_asksTree rfl rfl rfl (by decide +kernel) ⟨Nat.le_of_ble_eq_true rfl, Nat.le_of_ble_eq_true rfl⟩) (z_preV (q := (RX7, TX7, 20)) hK hL hE hW hS (zK_of g4) (by decide) rfl [.int x1, .int x2]) rfl rfl hl.1 rfl (lv_room (Nat.le_of_ble_eq_true rfl)) dX7_bestByTrying_3 ⟨Nat.le_of_ble_eq_true rfl, Nat.le_of_ble_eq_true rfl⟩) (fun H locs hW hS => ?_)
  refine lv_if_eq (tgt := 27) hx hb dX7_bestByTrying_6 (by decide) (fun c5 => ?_) (fun c5 => ?_)
  · have h := zip c5 h
    refine lv_iconst (v := 0) hx hb dX7_bestByTrying_27 (by decide) ?_
    exact z_iret hx hb hr hlocks hW hS (congrArg Prod.fst (Option.some.inj h)) (congrArg Prod.snd (Option.some.inj h)) dX7_bestByTrying_28
  · have h := zin c5 h
    refine lv_aload_n hx hb dX7_bestByTrying_9 rfl (lv_at hl 0 rfl) ?_
    refine lv_aload_n hx hb dX7_bestByTrying_10 rfl (lv_at hl 0 rfl) ?_
    obtain ⟨b6, e7, h⟩ := zb_some h
    refine z_get (own := RX7) (C := RX7) (T := TX7) (N := 20) (ci := 7) hx hb hts hinX7 hown hK hL hW 15 (zK_of g4) rfl (by decide) (by decide) rfl (hts (.fieldLink RX7 42 "ArcLightModel" "bestKey" "[J") (by decide +kernel)) (v := .ref (ad b6)) (zhvR e7 rfl) dX7_bestByTrying_11 ?_
    refine lv_aload_n hx hb dX7_bestByTrying_14 rfl (lv_at hl 0 rfl) ?_
    refine lv_iload_n hx hb dX7_bestByTrying_15 rfl (lv_at hl 1 rfl) ?_
    refine lv_iload_n hx hb dX7_bestByTrying_16 rfl (lv_at hl 2 rfl) ?_
    obtain ⟨q8, M10, e9, h⟩ := zbp_some h
    refine z_calli hS (va_runV (As := [.int x1, .int x2]) (rest := [.ref (ad b6), .ref (ad x0)]) ⟨hx, hb, hml, hown, hts⟩ (m_X7_finds l hL N e9 H.size) (cwV 2 hts gX7_bestByTrying_X7_finds rfl rfl rfl (by decide +kernel) ⟨Nat.le_of_ble_eq_true rfl, Nat.le_of_ble_eq_true rfl⟩) (z_preV (q := (RX7, TX7, 20)) hK hL hE hW hS (zK_of g4) (by decide) rfl [.int x1, .int x2]) rfl rfl hl.1 rfl (lv_room (Nat.le_of_ble_eq_true rfl)) dX7_bestByTrying_17 ⟨Nat.le_of_ble_eq_true rfl, Nat.le_of_ble_eq_true rfl⟩) (fun H locs hW hS => ?_)
    obtain ⟨g11, h⟩ := zg_some h
    refine z_lald hx hb hK hL hW g11 dX7_bestByTrying_20 ?_
    obtain ⟨q12, e13, h⟩ := zb_some h
    refine z_calli hS (va_runV (As := [.long (zJ M10 b6 q8.toNatClampNeg)]) (rest := []) ⟨hx, hb, hml, hown, hts⟩ (m_X7_scoreIn l (M := M10) hL N e13 H.size) (cwV 1 hts gX7_bestByTrying_X7_scoreIn rfl rfl rfl (by decide +kernel) ⟨Nat.le_of_ble_eq_true rfl, Nat.le_of_ble_eq_true rfl⟩) (z_preV (q := (RX7, TX7, 20)) hK hL hE hW hS (zK_of g4) (by decide) rfl [.long (zJ M10 b6 q8.toNatClampNeg)]) rfl rfl hl.1 rfl (lv_room (Nat.le_of_ble_eq_true rfl)) dX7_bestByTrying_21 ⟨Nat.le_of_ble_eq_true rfl, Nat.le_of_ble_eq_true rfl⟩) (fun H locs hW hS => ?_)
    refine lv_goto (tgt := 28) hx hb dX7_bestByTrying_24 (by decide) ?_
    exact z_iret hx hb hr hlocks hW hS (congrArg Prod.fst (Option.some.inj h)) (congrArg Prod.snd (Option.some.inj h)) dX7_bestByTrying_28
def f_X7_bestByTrying (N : Nat) (K len : Nat → Nat) (a0 : Nat) (a1 : Int32) (a2 : Int32) (M : ZM) : Option (Int32 × ZM) := f_X7_bestByTrying_0 N K len a0 a1 a2 M
set_option maxRecDepth 100000 in
set_option maxHeartbeats 4000000 in
theorem m_X7_bestByTrying (l : Launch) {D : va_G} {cy : Nat → ClassId} {ad : Nat → Nat} {L : List Nat} {K len : Nat → Nat} (hL : zSh ad L K) (N : Nat) {a0 : Nat} {a1 : Int32} {a2 : Int32} {M : ZM} {r : Int32} {Mr : ZM} (h : f_X7_bestByTrying N K len a0 a1 a2 M = some (r, Mr)) (sz : Nat) : Met l yX7_bestByTrying wsX7_bestByTrying ({ frames := 6, cells := 0, slots := 0, locals := 147 } : Room) (zPre D cy ad L K len sz [.ref (ad a0), .int a1, .int a2] M) (zQi D cy ad L K len r Mr sz) 0 0 (zA ad L sz) :=
  z_entry (Qf := fun sz => zQi D cy ad L K len r Mr sz) (av := [.ref (ad a0), .int a1, .int a2]) (by decide) rfl rfl hL (Nat.le_of_ble_eq_true rfl) (fun p e s m args below meth c C0 H locs ls hW hS hl => t_X7_bestByTrying_0 C0 N h hW hS (lv_sub hl [0, 1, 2] rfl))
def f_X7_head_0 (N : Nat) (K len : Nat → Nat) (x0 : Nat) (x1 : Int32) (x2 : Int32) (x3 : Int32) (M : ZM) : Option (Int32 × ZM) :=
(f_X7_isWord N K len x0 x1 x3 M).bind fun q1 => (
zg (K x0 == 8) (
zbp (f_X7_asks N K len x0 q1 M) fun q4 M6 => (
(if q4 = 0 then
some ((0 : Int32), M6)
else
zbp (f_X7_asksTree N K len x0 x1 x2 M6) fun q8 M10 => (
(if q8 = 0 then
some ((0 : Int32), M10)
else
(zR M10 x0 15).bind fun b12 => (
zbp (f_X7_finds N K len x0 x1 x2 M10) fun q14 M16 => (
zg (zok K len b12 12 q14) (
(f_X7_headIn N K len x0 x1 (zJ M16 b12 q14.toNatClampNeg) x3 M16).bind fun q18 => (
some (q18, M16)))))))))))
set_option maxRecDepth 100000 in
set_option maxHeartbeats 4000000 in
theorem t_X7_head_0 {p : Program} {l : Launch} {e : Env} {s : State} {m : MethodId} {args : Array Value} {below : List Frame} {meth : Method} {c : Code} {D : va_G} {cy : Nat → ClassId} {ad : Nat → Nat} {L : List Nat} {K len : Nat → Nat} (C0 : zCx p s m c meth args cX7_head 4 wsX7_head RX7 (some .int) D cy ad L K) (N : Nat) {x0 : Nat} {x1 : Int32} {x2 : Int32} {x3 : Int32} {M : ZM} {r : Int32} {Mr : ZM} (h : f_X7_head_0 N K len x0 x1 x2 x3 M = some (r, Mr)) {H : Heap} {locs : List Loc} {ls : Array Slot} (hW : zWd D cy ad L K len M H) (hS : va_S (zA ad L s.heap.size) s.heap H locs) (hl : lv_has ls 4 [(0, .ref (ad x0)), (1, .int x1), (2, .int x2), (3, .int x3)]) : W p l e (headSpec wsX7_head ({ frames := 6, cells := 0, slots := 0, locals := 147 } : Room)).room s m args below meth c H locs 0 0 (MQ below (zQi D cy ad L K len r Mr s.heap.size) args s 0 0 (zA ad L s.heap.size)) (F0 m 0 ls []) := by
  obtain ⟨hx, hb, hr, hml, hown, hts, hlocks, hK, hL, hE⟩ := id C0
  have hinX7 : ∀ w ∈ wsX70, w ∈ wsX7_head := by decide +kernel
  unfold f_X7_head_0 at h
  refine lv_aload_n hx hb dX7_head_0 rfl (lv_at hl 0 rfl) ?_
  refine lv_aload_n hx hb dX7_head_1 rfl (lv_at hl 0 rfl) ?_
  refine lv_iload_n hx hb dX7_head_2 rfl (lv_at hl 1 rfl) ?_
  refine lv_iload_n hx hb dX7_head_3 rfl (lv_at hl 3 rfl) ?_
  obtain ⟨q1, e2, h⟩ := zb_some h
  obtain ⟨g3, h⟩ := zg_some h
  refine z_calli hS (va_runV (As := [.int x1, .int x3]) (rest := [.ref (ad x0)]) ⟨hx, hb, hml, hown, hts⟩ (m_X7_isWord l hL N e2 H.size) (cwV 2 hts gX7_head_X7_isWord rfl rfl rfl (by decide +kernel) ⟨Nat.le_of_ble_eq_true rfl, Nat.le_of_ble_eq_true rfl⟩) (z_preV (q := (RX7, TX7, 20)) hK hL hE hW hS (zK_of g3) (by decide) rfl [.int x1, .int x3]) rfl rfl hl.1 rfl (lv_room (Nat.le_of_ble_eq_true rfl)) dX7_head_4 ⟨Nat.le_of_ble_eq_true rfl, Nat.le_of_ble_eq_true rfl⟩) (fun H locs hW hS => ?_)
  obtain ⟨q4, M6, e5, h⟩ := zbp_some h
  refine z_calli hS (va_runV (As := [.int q1]) (rest := []) ⟨hx, hb, hml, hown, hts⟩ (m_X7_asks l hL N e5 H.size) (cwV 1 hts gX7_head_X7_asks rfl rfl rfl (by decide +kernel) ⟨Nat.le_of_ble_eq_true rfl, Nat.le_of_ble_eq_true rfl⟩) (z_preV (q := (RX7, TX7, 20)) hK hL hE hW hS (zK_of g3) (by decide) rfl [.int q1]) rfl rfl hl.1 rfl (lv_room (Nat.le_of_ble_eq_true rfl)) dX7_head_7 ⟨Nat.le_of_ble_eq_true rfl, Nat.le_of_ble_eq_true rfl⟩) (fun H locs hW hS => ?_)
  refine lv_if_ne (tgt := 15) hx hb dX7_head_10 (by decide) (fun c7 => ?_) (fun c7 => ?_)
  · have h := zin c7 h
    refine lv_aload_n hx hb dX7_head_15 rfl (lv_at hl 0 rfl) ?_
    refine lv_iload_n hx hb dX7_head_16 rfl (lv_at hl 1 rfl) ?_
    refine lv_iload_n hx hb dX7_head_17 rfl (lv_at hl 2 rfl) ?_
    obtain ⟨q8, M10, e9, h⟩ := zbp_some h
    refine z_calli hS (va_runV (As := [.int x1, .int x2]) (rest := []) ⟨hx, hb, hml, hown, hts⟩ (m_X7_asksTree l hL N e9 H.size) (cwV 2 hts gX7_head_X7_asksTree rfl rfl rfl (by decide +kernel) ⟨Nat.le_of_ble_eq_true rfl, Nat.le_of_ble_eq_true rfl⟩) (z_preV (q := (RX7, TX7, 20)) hK hL hE hW hS (zK_of g3) (by decide) rfl [.int x1, .int x2]) rfl rfl hl.1 rfl (lv_room (Nat.le_of_ble_eq_true rfl)) dX7_head_18 ⟨Nat.le_of_ble_eq_true rfl, Nat.le_of_ble_eq_true rfl⟩) (fun H locs hW hS => ?_)
    refine lv_if_eq (tgt := 44) hx hb dX7_head_21 (by decide) (fun c11 => ?_) (fun c11 => ?_)
    · have h := zip c11 h
      refine lv_iconst (v := 0) hx hb dX7_head_44 (by decide) ?_
      exact z_iret hx hb hr hlocks hW hS (congrArg Prod.fst (Option.some.inj h)) (congrArg Prod.snd (Option.some.inj h)) dX7_head_45
    · have h := zin c11 h
      refine lv_aload_n hx hb dX7_head_24 rfl (lv_at hl 0 rfl) ?_
      refine lv_iload_n hx hb dX7_head_25 rfl (lv_at hl 1 rfl) ?_
      refine lv_aload_n hx hb dX7_head_26 rfl (lv_at hl 0 rfl) ?_
      obtain ⟨b12, e13, h⟩ := zb_some h
      refine z_get (own := RX7) (C := RX7) (T := TX7) (N := 20) (ci := 7) hx hb hts hinX7 hown hK hL hW 15 (zK_of g3) rfl (by decide) (by decide) rfl (hts (.fieldLink RX7 42 "ArcLightModel" "bestKey" "[J") (by decide +kernel)) (v := .ref (ad b12)) (zhvR e13 rfl) dX7_head_27 ?_
      refine lv_aload_n hx hb dX7_head_30 rfl (lv_at hl 0 rfl) ?_
      refine lv_iload_n hx hb dX7_head_31 rfl (lv_at hl 1 rfl) ?_
      refine lv_iload_n hx hb dX7_head_32 rfl (lv_at hl 2 rfl) ?_
      obtain ⟨q14, M16, e15, h⟩ := zbp_some h
      refine z_calli hS (va_runV (As := [.int x1, .int x2]) (rest := [.ref (ad b12), .int x1, .ref (ad x0)]) ⟨hx, hb, hml, hown, hts⟩ (m_X7_finds l hL N e15 H.size) (cwV 2 hts gX7_head_X7_finds rfl rfl rfl (by decide +kernel) ⟨Nat.le_of_ble_eq_true rfl, Nat.le_of_ble_eq_true rfl⟩) (z_preV (q := (RX7, TX7, 20)) hK hL hE hW hS (zK_of g3) (by decide) rfl [.int x1, .int x2]) rfl rfl hl.1 rfl (lv_room (Nat.le_of_ble_eq_true rfl)) dX7_head_33 ⟨Nat.le_of_ble_eq_true rfl, Nat.le_of_ble_eq_true rfl⟩) (fun H locs hW hS => ?_)
      obtain ⟨g17, h⟩ := zg_some h
      refine z_lald hx hb hK hL hW g17 dX7_head_36 ?_
      refine lv_iload_n hx hb dX7_head_37 rfl (lv_at hl 3 rfl) ?_
      obtain ⟨q18, e19, h⟩ := zb_some h
      refine z_calli hS (va_runV (As := [.int x1, .long (zJ M16 b12 q14.toNatClampNeg), .int x3]) (rest := []) ⟨hx, hb, hml, hown, hts⟩ (m_X7_headIn l hL N e19 H.size) (cwV 3 hts gX7_head_X7_headIn rfl rfl rfl (by decide +kernel) ⟨Nat.le_of_ble_eq_true rfl, Nat.le_of_ble_eq_true rfl⟩) (z_preV (q := (RX7, TX7, 20)) hK hL hE hW hS (zK_of g3) (by decide) rfl [.int x1, .long (zJ M16 b12 q14.toNatClampNeg), .int x3]) rfl rfl hl.1 rfl (lv_room (Nat.le_of_ble_eq_true rfl)) dX7_head_38 ⟨Nat.le_of_ble_eq_true rfl, Nat.le_of_ble_eq_true rfl⟩) (fun H locs hW hS => ?_)
      refine lv_goto (tgt := 45) hx hb dX7_head_41 (by decide) ?_
      exact z_iret hx hb hr hlocks hW hS (congrArg Prod.fst (Option.some.inj h)) (congrArg Prod.snd (Option.some.inj h)) dX7_head_45
  · have h := zip c7 h
    refine lv_iconst (v := 0) hx hb dX7_head_13 (by decide) ?_
    exact z_iret hx hb hr hlocks hW hS (congrArg Prod.fst (Option.some.inj h)) (congrArg Prod.snd (Option.some.inj h)) dX7_head_14
def f_X7_head (N : Nat) (K len : Nat → Nat) (a0 : Nat) (a1 : Int32) (a2 : Int32) (a3 : Int32) (M : ZM) : Option (Int32 × ZM) := f_X7_head_0 N K len a0 a1 a2 a3 M
set_option maxRecDepth 100000 in
set_option maxHeartbeats 4000000 in
theorem m_X7_head (l : Launch) {D : va_G} {cy : Nat → ClassId} {ad : Nat → Nat} {L : List Nat} {K len : Nat → Nat} (hL : zSh ad L K) (N : Nat) {a0 : Nat} {a1 : Int32} {a2 : Int32} {a3 : Int32} {M : ZM} {r : Int32} {Mr : ZM} (h : f_X7_head N K len a0 a1 a2 a3 M = some (r, Mr)) (sz : Nat) : Met l yX7_head wsX7_head ({ frames := 6, cells := 0, slots := 0, locals := 147 } : Room) (zPre D cy ad L K len sz [.ref (ad a0), .int a1, .int a2, .int a3] M) (zQi D cy ad L K len r Mr sz) 0 0 (zA ad L sz) :=
  z_entry (Qf := fun sz => zQi D cy ad L K len r Mr sz) (av := [.ref (ad a0), .int a1, .int a2, .int a3]) (by decide) rfl rfl hL (Nat.le_of_ble_eq_true rfl) (fun p e s m args below meth c C0 H locs ls hW hS hl => t_X7_head_0 C0 N h hW hS (lv_sub hl [0, 1, 2, 3] rfl))
def f_X7_crossings_103 (N : Nat) (K len : Nat → Nat) (kh64 : Nat → Int32 → Int32 → Int32 → ZM → Option (Int32 × ZM)) (kh78 : Nat → Int32 → Int32 → Int32 → Int32 → ZM → Option (Int32 × ZM)) (x0 : Nat) (x1 : Int32) (x5 : Int32) (x6 : Int32) (s0 : Int32) (s1 : Int32) (M : ZM) : Option (Int32 × ZM) :=
kh78 x0 x1 (s1 + s0) x5 (x6 + 1) M
set_option maxRecDepth 100000 in
set_option maxHeartbeats 4000000 in
theorem t_X7_crossings_103 {p : Program} {l : Launch} {e : Env} {s : State} {m : MethodId} {args : Array Value} {below : List Frame} {meth : Method} {c : Code} {D : va_G} {cy : Nat → ClassId} {ad : Nat → Nat} {L : List Nat} {K len : Nat → Nat} (C0 : zCx p s m c meth args cX7_crossings 7 wsX7_crossings RX7 (some .int) D cy ad L K) (N : Nat) {kh64 : Nat → Int32 → Int32 → Int32 → ZM → Option (Int32 × ZM)} {kh78 : Nat → Int32 → Int32 → Int32 → Int32 → ZM → Option (Int32 × ZM)} {x0 : Nat} {x1 : Int32} {x5 : Int32} {x6 : Int32} {s0 : Int32} {s1 : Int32} {M : ZM} {r : Int32} {Mr : ZM} (hk64 : ∀ {y0 : Nat} {y1 : Int32} {y4 : Int32} {y5 : Int32} {M : ZM}, kh64 y0 y1 y4 y5 M = some (r, Mr) → ∀ {H : Heap} {locs : List Loc} {ls : Array Slot}, zWd D cy ad L K len M H → va_S (zA ad L s.heap.size) s.heap H locs → lv_has ls 7 [(0, .ref (ad y0)), (1, .int y1), (4, .int y4), (5, .int y5)] → W p l e (headSpec wsX7_crossings ({ frames := 6, cells := 0, slots := 0, locals := 147 } : Room)).room s m args below meth c H locs 0 0 (MQ below (zQi D cy ad L K len r Mr s.heap.size) args s 0 0 (zA ad L s.heap.size)) (F0 m 64 ls [])) (hk78 : ∀ {y0 : Nat} {y1 : Int32} {y4 : Int32} {y5 : Int32} {y6 : Int32} {M : ZM}, kh78 y0 y1 y4 y5 y6 M = some (r, Mr) → ∀ {H : Heap} {locs : List Loc} {ls : Array Slot}, zWd D cy ad L K len M H → va_S (zA ad L s.heap.size) s.heap H locs → lv_has ls 7 [(0, .ref (ad y0)), (1, .int y1), (4, .int y4), (5, .int y5), (6, .int y6)] → W p l e (headSpec wsX7_crossings ({ frames := 6, cells := 0, slots := 0, locals := 147 } : Room)).room s m args below meth c H locs 0 0 (MQ below (zQi D cy ad L K len r Mr s.heap.size) args s 0 0 (zA ad L s.heap.size)) (F0 m 78 ls [])) (h : f_X7_crossings_103 N K len kh64 kh78 x0 x1 x5 x6 s0 s1 M = some (r, Mr)) {H : Heap} {locs : List Loc} {ls : Array Slot} (hW : zWd D cy ad L K len M H) (hS : va_S (zA ad L s.heap.size) s.heap H locs) (hl : lv_has ls 7 [(0, .ref (ad x0)), (1, .int x1), (5, .int x5), (6, .int x6)]) : W p l e (headSpec wsX7_crossings ({ frames := 6, cells := 0, slots := 0, locals := 147 } : Room)).room s m args below meth c H locs 0 0 (MQ below (zQi D cy ad L K len r Mr s.heap.size) args s 0 0 (zA ad L s.heap.size)) (F0 m 103 ls [.int s0, .int s1]) := by
  obtain ⟨hx, hb, hr, hml, hown, hts, hlocks, hK, hL, hE⟩ := id C0
  unfold f_X7_crossings_103 at h
  refine lv_iadd hx hb dX7_crossings_103 ?_
  refine lv_istore (lv' := [(4, .int (s1 + s0)), (0, .ref (ad x0)), (1, .int x1), (5, .int x5), (6, .int x6)]) hx hb dX7_crossings_104 hl (by decide) rfl (fun ls hl => ?_)
  refine lv_iinc (k := 4) (v := (x6 + 1)) (lv' := [(6, .int (x6 + 1)), (4, .int (s1 + s0)), (0, .ref (ad x0)), (1, .int x1), (5, .int x5)]) hx hb dX7_crossings_106 hl rfl (by rw [show Int32.ofInt 1 = (1 : Int32) from by decide]) (by decide) rfl (fun ls hl => ?_)
  refine lv_goto (tgt := 78) hx hb dX7_crossings_109 (by decide) ?_
  exact hk78 h hW hS (lv_sub hl [2, 3, 1, 4, 0] rfl)
def f_X7_crossings_78 (N : Nat) (K len : Nat → Nat) (kh64 : Nat → Int32 → Int32 → Int32 → ZM → Option (Int32 × ZM)) : Nat → Nat → Int32 → Int32 → Int32 → Int32 → ZM → Option (Int32 × ZM)
  | 0, _, _, _, _, _, _ => none
  | n + 1, x0, x1, x4, x5, x6, M =>
    (if x5 ≤ x6 then
    kh64 x0 x1 x4 (x5 + 1) M
    else
    (f_X7_doCross N K len x0 x5 x6 M).bind fun q2 => (
    zg (K x0 == 8) (
    (if q2 = 0 then
    f_X7_crossings_103 N K len kh64 (fun y0 y1 y4 y5 y6 M => f_X7_crossings_78 N K len kh64 n y0 y1 y4 y5 y6 M) x0 x1 x5 x6 (0 : Int32) x4 M
    else
    f_X7_crossings_103 N K len kh64 (fun y0 y1 y4 y5 y6 M => f_X7_crossings_78 N K len kh64 n y0 y1 y4 y5 y6 M) x0 x1 x5 x6 (1 : Int32) x4 M))))
set_option maxRecDepth 100000 in
set_option maxHeartbeats 4000000 in
theorem t_X7_crossings_78 {p : Program} {l : Launch} {e : Env} {s : State} {m : MethodId} {args : Array Value} {below : List Frame} {meth : Method} {c : Code} {D : va_G} {cy : Nat → ClassId} {ad : Nat → Nat} {L : List Nat} {K len : Nat → Nat} (C0 : zCx p s m c meth args cX7_crossings 7 wsX7_crossings RX7 (some .int) D cy ad L K) (N : Nat) {kh64 : Nat → Int32 → Int32 → Int32 → ZM → Option (Int32 × ZM)} {r : Int32} {Mr : ZM} (hk64 : ∀ {y0 : Nat} {y1 : Int32} {y4 : Int32} {y5 : Int32} {M : ZM}, kh64 y0 y1 y4 y5 M = some (r, Mr) → ∀ {H : Heap} {locs : List Loc} {ls : Array Slot}, zWd D cy ad L K len M H → va_S (zA ad L s.heap.size) s.heap H locs → lv_has ls 7 [(0, .ref (ad y0)), (1, .int y1), (4, .int y4), (5, .int y5)] → W p l e (headSpec wsX7_crossings ({ frames := 6, cells := 0, slots := 0, locals := 147 } : Room)).room s m args below meth c H locs 0 0 (MQ below (zQi D cy ad L K len r Mr s.heap.size) args s 0 0 (zA ad L s.heap.size)) (F0 m 64 ls [])) : ∀ (n : Nat) {x0 : Nat} {x1 : Int32} {x4 : Int32} {x5 : Int32} {x6 : Int32} {M : ZM}, f_X7_crossings_78 N K len kh64 n x0 x1 x4 x5 x6 M = some (r, Mr) → ∀ {H : Heap} {locs : List Loc} {ls : Array Slot}, zWd D cy ad L K len M H → va_S (zA ad L s.heap.size) s.heap H locs → lv_has ls 7 [(0, .ref (ad x0)), (1, .int x1), (4, .int x4), (5, .int x5), (6, .int x6)] → W p l e (headSpec wsX7_crossings ({ frames := 6, cells := 0, slots := 0, locals := 147 } : Room)).room s m args below meth c H locs 0 0 (MQ below (zQi D cy ad L K len r Mr s.heap.size) args s 0 0 (zA ad L s.heap.size)) (F0 m 78 ls []) := by
  obtain ⟨hx, hb, hr, hml, hown, hts, hlocks, hK, hL, hE⟩ := id C0
  intro n
  induction n with
  | zero =>
    intro x0 x1 x4 x5 x6 M h
    cases (show (none : Option (Int32 × ZM)) = some (r, Mr) from h)
  | succ n ih =>
    intro x0 x1 x4 x5 x6 M h H locs ls hW hS hl
    rw [f_X7_crossings_78] at h
    refine lv_iload hx hb dX7_crossings_78 (lv_at hl 4 rfl) ?_
    refine lv_iload hx hb dX7_crossings_80 (lv_at hl 3 rfl) ?_
    refine lv_icmp_ge (tgt := 112) hx hb dX7_crossings_82 (by decide) (fun c1 => ?_) (fun c1 => ?_)
    · have h := zip c1 h
      refine lv_iinc (k := 3) (v := (x5 + 1)) (lv' := [(5, .int (x5 + 1)), (0, .ref (ad x0)), (1, .int x1), (4, .int x4), (6, .int x6)]) hx hb dX7_crossings_112 hl rfl (by rw [show Int32.ofInt 1 = (1 : Int32) from by decide]) (by decide) rfl (fun ls hl => ?_)
      refine lv_goto (tgt := 64) hx hb dX7_crossings_115 (by decide) ?_
      exact hk64 h hW hS (lv_sub hl [1, 2, 3, 0] rfl)
    · have h := zin c1 h
      refine lv_iload hx hb dX7_crossings_85 (lv_at hl 2 rfl) ?_
      refine lv_aload_n hx hb dX7_crossings_87 rfl (lv_at hl 0 rfl) ?_
      refine lv_iload hx hb dX7_crossings_88 (lv_at hl 3 rfl) ?_
      refine lv_iload hx hb dX7_crossings_90 (lv_at hl 4 rfl) ?_
      obtain ⟨q2, e3, h⟩ := zb_some h
      obtain ⟨g4, h⟩ := zg_some h
      refine z_calli hS (va_runV (As := [.int x5, .int x6]) (rest := [.int x4]) ⟨hx, hb, hml, hown, hts⟩ (m_X7_doCross l hL N e3 H.size) (cwV 2 hts gX7_crossings_X7_doCross rfl rfl rfl (by decide +kernel) ⟨Nat.le_of_ble_eq_true rfl, Nat.le_of_ble_eq_true rfl⟩) (z_preV (q := (RX7, TX7, 20)) hK hL hE hW hS (zK_of g4) (by decide) rfl [.int x5, .int x6]) rfl rfl hl.1 rfl (lv_room (Nat.le_of_ble_eq_true rfl)) dX7_crossings_92 ⟨Nat.le_of_ble_eq_true rfl, Nat.le_of_ble_eq_true rfl⟩) (fun H locs hW hS => ?_)
      refine lv_if_eq (tgt := 102) hx hb dX7_crossings_95 (by decide) (fun c5 => ?_) (fun c5 => ?_)
      · have h := zip c5 h
        refine lv_iconst (v := 0) hx hb dX7_crossings_102 (by decide) ?_
        exact t_X7_crossings_103 C0 N hk64 (fun h _ _ _ hW hS hl => ih h hW hS hl) h hW hS (lv_sub hl [0, 1, 3, 4] rfl)
      · have h := zin c5 h
        refine lv_iconst (v := 1) hx hb dX7_crossings_98 (by decide) ?_
        refine lv_goto (tgt := 103) hx hb dX7_crossings_99 (by decide) ?_
        exact t_X7_crossings_103 C0 N hk64 (fun h _ _ _ hW hS hl => ih h hW hS hl) h hW hS (lv_sub hl [0, 1, 3, 4] rfl)
def f_X7_crossings_64 (N : Nat) (K len : Nat → Nat) : Nat → Nat → Int32 → Int32 → Int32 → ZM → Option (Int32 × ZM)
  | 0, _, _, _, _, _ => none
  | n + 1, x0, x1, x4, x5, M =>
    zg (K x0 == 8) (
    (zR M x0 1).bind fun b2 => (
    zg (zok K len b2 11 x1) (
    (if (zI M b2 x1.toNatClampNeg) < x5 then
    some (x4, M)
    else
    f_X7_crossings_78 N K len (fun y0 y1 y4 y5 M => f_X7_crossings_64 N K len  n y0 y1 y4 y5 M) N x0 x1 x4 x5 (1 : Int32) M))))
set_option maxRecDepth 100000 in
set_option maxHeartbeats 4000000 in
theorem t_X7_crossings_64 {p : Program} {l : Launch} {e : Env} {s : State} {m : MethodId} {args : Array Value} {below : List Frame} {meth : Method} {c : Code} {D : va_G} {cy : Nat → ClassId} {ad : Nat → Nat} {L : List Nat} {K len : Nat → Nat} (C0 : zCx p s m c meth args cX7_crossings 7 wsX7_crossings RX7 (some .int) D cy ad L K) (N : Nat) {r : Int32} {Mr : ZM} : ∀ (n : Nat) {x0 : Nat} {x1 : Int32} {x4 : Int32} {x5 : Int32} {M : ZM}, f_X7_crossings_64 N K len n x0 x1 x4 x5 M = some (r, Mr) → ∀ {H : Heap} {locs : List Loc} {ls : Array Slot}, zWd D cy ad L K len M H → va_S (zA ad L s.heap.size) s.heap H locs → lv_has ls 7 [(0, .ref (ad x0)), (1, .int x1), (4, .int x4), (5, .int x5)] → W p l e (headSpec wsX7_crossings ({ frames := 6, cells := 0, slots := 0, locals := 147 } : Room)).room s m args below meth c H locs 0 0 (MQ below (zQi D cy ad L K len r Mr s.heap.size) args s 0 0 (zA ad L s.heap.size)) (F0 m 64 ls []) := by
  obtain ⟨hx, hb, hr, hml, hown, hts, hlocks, hK, hL, hE⟩ := id C0
  have hinX7 : ∀ w ∈ wsX70, w ∈ wsX7_crossings := by decide +kernel
  intro n
  induction n with
  | zero =>
    intro x0 x1 x4 x5 M h
    cases (show (none : Option (Int32 × ZM)) = some (r, Mr) from h)
  | succ n ih =>
    intro x0 x1 x4 x5 M h H locs ls hW hS hl
    rw [f_X7_crossings_64] at h
    refine lv_iload hx hb dX7_crossings_64 (lv_at hl 3 rfl) ?_
    refine lv_aload_n hx hb dX7_crossings_66 rfl (lv_at hl 0 rfl) ?_
    obtain ⟨g1, h⟩ := zg_some h
    obtain ⟨b2, e3, h⟩ := zb_some h
    refine z_get (own := RX7) (C := RX7) (T := TX7) (N := 20) (ci := 7) hx hb hts hinX7 hown hK hL hW 1 (zK_of g1) rfl (by decide) (by decide) rfl (hts (.fieldLink RX7 7 "ArcLightModel" "words" "[I") (by decide +kernel)) (v := .ref (ad b2)) (zhvR e3 rfl) dX7_crossings_67 ?_
    refine lv_iload_n hx hb dX7_crossings_70 rfl (lv_at hl 1 rfl) ?_
    obtain ⟨g4, h⟩ := zg_some h
    refine z_iald hx hb hK hL hW g4 dX7_crossings_71 ?_
    refine lv_icmp_gt (tgt := 118) hx hb dX7_crossings_72 (by decide) (fun c5 => ?_) (fun c5 => ?_)
    · have h := zip c5 h
      refine lv_iload hx hb dX7_crossings_118 (lv_at hl 2 rfl) ?_
      exact z_iret hx hb hr hlocks hW hS (congrArg Prod.fst (Option.some.inj h)) (congrArg Prod.snd (Option.some.inj h)) dX7_crossings_120
    · have h := zin c5 h
      refine lv_iconst (v := 1) hx hb dX7_crossings_75 (by decide) ?_
      refine lv_istore (lv' := [(6, .int (1 : Int32)), (0, .ref (ad x0)), (1, .int x1), (4, .int x4), (5, .int x5)]) hx hb dX7_crossings_76 hl (by decide) rfl (fun ls hl => ?_)
      exact t_X7_crossings_78 C0 N (fun h _ _ _ hW hS hl => ih h hW hS hl) N h hW hS (lv_sub hl [1, 2, 3, 4, 0] rfl)
def f_X7_crossings_26 (N : Nat) (K len : Nat → Nat) : Nat → Nat → Int32 → Int64 → Int32 → ZM → Option (Int32 × ZM)
  | 0, _, _, _, _, _ => none
  | n + 1, x0, x1, x2, x4, M =>
    zg (K x0 == 8) (
    (zR M x0 1).bind fun b2 => (
    zg (zok K len b2 11 x1) (
    (if (zI M b2 x1.toNatClampNeg) < x4 then
    f_X7_crossings_64 N K len  N x0 x1 (0 : Int32) (1 : Int32) M
    else
    (zR M x0 18).bind fun b6 => (
    (f_X7_headIn N K len x0 x1 x2 x4 M).bind fun q8 => (
    zg (zok K len b6 11 x4) (
    zl (zsI M b6 x4.toNatClampNeg q8) fun M11 => (
    f_X7_crossings_26 N K len  n x0 x1 x2 (x4 + 1) M11))))))))
set_option maxRecDepth 100000 in
set_option maxHeartbeats 4000000 in
theorem t_X7_crossings_26 {p : Program} {l : Launch} {e : Env} {s : State} {m : MethodId} {args : Array Value} {below : List Frame} {meth : Method} {c : Code} {D : va_G} {cy : Nat → ClassId} {ad : Nat → Nat} {L : List Nat} {K len : Nat → Nat} (C0 : zCx p s m c meth args cX7_crossings 7 wsX7_crossings RX7 (some .int) D cy ad L K) (N : Nat) {r : Int32} {Mr : ZM} : ∀ (n : Nat) {x0 : Nat} {x1 : Int32} {x2 : Int64} {x4 : Int32} {M : ZM}, f_X7_crossings_26 N K len n x0 x1 x2 x4 M = some (r, Mr) → ∀ {H : Heap} {locs : List Loc} {ls : Array Slot}, zWd D cy ad L K len M H → va_S (zA ad L s.heap.size) s.heap H locs → lv_has ls 7 [(0, .ref (ad x0)), (1, .int x1), (2, .long x2), (4, .int x4)] → W p l e (headSpec wsX7_crossings ({ frames := 6, cells := 0, slots := 0, locals := 147 } : Room)).room s m args below meth c H locs 0 0 (MQ below (zQi D cy ad L K len r Mr s.heap.size) args s 0 0 (zA ad L s.heap.size)) (F0 m 26 ls []) := by
  obtain ⟨hx, hb, hr, hml, hown, hts, hlocks, hK, hL, hE⟩ := id C0
  have hinX7 : ∀ w ∈ wsX70, w ∈ wsX7_crossings := by decide +kernel
  intro n
  induction n with
  | zero =>
    intro x0 x1 x2 x4 M h
    cases (show (none : Option (Int32 × ZM)) = some (r, Mr) from h)
  | succ n ih =>
    intro x0 x1 x2 x4 M h H locs ls hW hS hl
    rw [f_X7_crossings_26] at h
    refine lv_iload hx hb dX7_crossings_26 (lv_at hl 3 rfl) ?_
    refine lv_aload_n hx hb dX7_crossings_28 rfl (lv_at hl 0 rfl) ?_
    obtain ⟨g1, h⟩ := zg_some h
    obtain ⟨b2, e3, h⟩ := zb_some h
    refine z_get (own := RX7) (C := RX7) (T := TX7) (N := 20) (ci := 7) hx hb hts hinX7 hown hK hL hW 1 (zK_of g1) rfl (by decide) (by decide) rfl (hts (.fieldLink RX7 7 "ArcLightModel" "words" "[I") (by decide +kernel)) (v := .ref (ad b2)) (zhvR e3 rfl) dX7_crossings_29 ?_
    refine lv_iload_n hx hb dX7_crossings_32 rfl (lv_at hl 1 rfl) ?_
    obtain ⟨g4, h⟩ := zg_some h
    refine z_iald hx hb hK hL hW g4 dX7_crossings_33 ?_
    refine lv_icmp_gt (tgt := 58) hx hb dX7_crossings_34 (by decide) (fun c5 => ?_) (fun c5 => ?_)
    · have h := zip c5 h
      refine lv_iconst (v := 0) hx hb dX7_crossings_58 (by decide) ?_
      refine lv_istore (lv' := [(4, .int (0 : Int32)), (0, .ref (ad x0)), (1, .int x1), (2, .long x2)]) hx hb dX7_crossings_59 hl (by decide) rfl (fun ls hl => ?_)
      refine lv_iconst (v := 1) hx hb dX7_crossings_61 (by decide) ?_
      refine lv_istore (lv' := [(5, .int (1 : Int32)), (4, .int (0 : Int32)), (0, .ref (ad x0)), (1, .int x1), (2, .long x2)]) hx hb dX7_crossings_62 hl (by decide) rfl (fun ls hl => ?_)
      exact t_X7_crossings_64 C0 N  N h hW hS (lv_sub hl [2, 3, 1, 0] rfl)
    · have h := zin c5 h
      refine lv_aload_n hx hb dX7_crossings_37 rfl (lv_at hl 0 rfl) ?_
      obtain ⟨b6, e7, h⟩ := zb_some h
      refine z_get (own := RX7) (C := RX7) (T := TX7) (N := 20) (ci := 7) hx hb hts hinX7 hown hK hL hW 18 (zK_of g1) rfl (by decide) (by decide) rfl (hts (.fieldLink RX7 52 "ArcLightModel" "head" "[I") (by decide +kernel)) (v := .ref (ad b6)) (zhvR e7 rfl) dX7_crossings_38 ?_
      refine lv_iload hx hb dX7_crossings_41 (lv_at hl 3 rfl) ?_
      refine lv_aload_n hx hb dX7_crossings_43 rfl (lv_at hl 0 rfl) ?_
      refine lv_iload_n hx hb dX7_crossings_44 rfl (lv_at hl 1 rfl) ?_
      refine lv_lload_n hx hb dX7_crossings_45 rfl (lv_at hl 2 rfl) ?_
      refine lv_iload hx hb dX7_crossings_46 (lv_at hl 3 rfl) ?_
      obtain ⟨q8, e9, h⟩ := zb_some h
      refine z_calli hS (va_runV (As := [.int x1, .long x2, .int x4]) (rest := [.int x4, .ref (ad b6)]) ⟨hx, hb, hml, hown, hts⟩ (m_X7_headIn l hL N e9 H.size) (cwV 3 hts gX7_crossings_X7_headIn rfl rfl rfl (by decide +kernel) ⟨Nat.le_of_ble_eq_true rfl, Nat.le_of_ble_eq_true rfl⟩) (z_preV (q := (RX7, TX7, 20)) hK hL hE hW hS (zK_of g1) (by decide) rfl [.int x1, .long x2, .int x4]) rfl rfl hl.1 rfl (lv_room (Nat.le_of_ble_eq_true rfl)) dX7_crossings_48 ⟨Nat.le_of_ble_eq_true rfl, Nat.le_of_ble_eq_true rfl⟩) (fun H locs hW hS => ?_)
      obtain ⟨g10, h⟩ := zg_some h
      refine z_iast hx hb hK hL hW hS g10 dX7_crossings_51 (fun H locs hW hS => ?_)
      obtain ⟨M11, eM12, h⟩ := zl_some h
      rw [← eM12] at hW
      refine lv_iinc (k := 3) (v := (x4 + 1)) (lv' := [(4, .int (x4 + 1)), (0, .ref (ad x0)), (1, .int x1), (2, .long x2)]) hx hb dX7_crossings_52 hl rfl (by rw [show Int32.ofInt 1 = (1 : Int32) from by decide]) (by decide) rfl (fun ls hl => ?_)
      refine lv_goto (tgt := 26) hx hb dX7_crossings_55 (by decide) ?_
      exact ih h hW hS (lv_sub hl [1, 2, 3, 0] rfl)
def f_X7_crossings_0 (N : Nat) (K len : Nat → Nat) (x0 : Nat) (x1 : Int32) (M : ZM) : Option (Int32 × ZM) :=
zbp (f_X7_asksTree N K len x0 x1 (1 : Int32) M) fun q1 M3 => (
zg (K x0 == 8) (
(if q1 = 0 then
some ((0 : Int32), M3)
else
(zR M3 x0 15).bind fun b6 => (
zbp (f_X7_finds N K len x0 x1 (1 : Int32) M3) fun q8 M10 => (
zg (zok K len b6 12 q8) (
f_X7_crossings_26 N K len  N x0 x1 (zJ M10 b6 q8.toNatClampNeg) (1 : Int32) M10))))))
set_option maxRecDepth 100000 in
set_option maxHeartbeats 4000000 in
theorem t_X7_crossings_0 {p : Program} {l : Launch} {e : Env} {s : State} {m : MethodId} {args : Array Value} {below : List Frame} {meth : Method} {c : Code} {D : va_G} {cy : Nat → ClassId} {ad : Nat → Nat} {L : List Nat} {K len : Nat → Nat} (C0 : zCx p s m c meth args cX7_crossings 7 wsX7_crossings RX7 (some .int) D cy ad L K) (N : Nat) {x0 : Nat} {x1 : Int32} {M : ZM} {r : Int32} {Mr : ZM} (h : f_X7_crossings_0 N K len x0 x1 M = some (r, Mr)) {H : Heap} {locs : List Loc} {ls : Array Slot} (hW : zWd D cy ad L K len M H) (hS : va_S (zA ad L s.heap.size) s.heap H locs) (hl : lv_has ls 7 [(0, .ref (ad x0)), (1, .int x1)]) : W p l e (headSpec wsX7_crossings ({ frames := 6, cells := 0, slots := 0, locals := 147 } : Room)).room s m args below meth c H locs 0 0 (MQ below (zQi D cy ad L K len r Mr s.heap.size) args s 0 0 (zA ad L s.heap.size)) (F0 m 0 ls []) := by
  obtain ⟨hx, hb, hr, hml, hown, hts, hlocks, hK, hL, hE⟩ := id C0
  have hinX7 : ∀ w ∈ wsX70, w ∈ wsX7_crossings := by decide +kernel
  unfold f_X7_crossings_0 at h
  refine lv_aload_n hx hb dX7_crossings_0 rfl (lv_at hl 0 rfl) ?_
  refine lv_iload_n hx hb dX7_crossings_1 rfl (lv_at hl 1 rfl) ?_
  refine lv_iconst (v := 1) hx hb dX7_crossings_2 (by decide) ?_
  obtain ⟨q1, M3, e2, h⟩ := zbp_some h
  obtain ⟨g4, h⟩ := zg_some h
  refine z_calli hS (va_runV (As := [.int x1, .int (1 : Int32)]) (rest := []) ⟨hx, hb, hml, hown, hts⟩ (m_X7_asksTree l hL N e2 H.size) (cwV 2 hts gX7_crossings_X7_asksTree rfl rfl rfl (by decide +kernel) ⟨Nat.le_of_ble_eq_true rfl, Nat.le_of_ble_eq_true rfl⟩) (z_preV (q := (RX7, TX7, 20)) hK hL hE hW hS (zK_of g4) (by decide) rfl [.int x1, .int (1 : Int32)]) rfl rfl hl.1 rfl (lv_room (Nat.le_of_ble_eq_true rfl)) dX7_crossings_3 ⟨Nat.le_of_ble_eq_true rfl, Nat.le_of_ble_eq_true rfl⟩) (fun H locs hW hS => ?_)
  refine lv_if_ne (tgt := 11) hx hb dX7_crossings_6 (by decide) (fun c5 => ?_) (fun c5 => ?_)
  · have h := zin c5 h
    refine lv_aload_n hx hb dX7_crossings_11 rfl (lv_at hl 0 rfl) ?_
    obtain ⟨b6, e7, h⟩ := zb_some h
    refine z_get (own := RX7) (C := RX7) (T := TX7) (N := 20) (ci := 7) hx hb hts hinX7 hown hK hL hW 15 (zK_of g4) rfl (by decide) (by decide) rfl (hts (.fieldLink RX7 42 "ArcLightModel" "bestKey" "[J") (by decide +kernel)) (v := .ref (ad b6)) (zhvR e7 rfl) dX7_crossings_12 ?_
    refine lv_aload_n hx hb dX7_crossings_15 rfl (lv_at hl 0 rfl) ?_
    refine lv_iload_n hx hb dX7_crossings_16 rfl (lv_at hl 1 rfl) ?_
    refine lv_iconst (v := 1) hx hb dX7_crossings_17 (by decide) ?_
    obtain ⟨q8, M10, e9, h⟩ := zbp_some h
    refine z_calli hS (va_runV (As := [.int x1, .int (1 : Int32)]) (rest := [.ref (ad b6)]) ⟨hx, hb, hml, hown, hts⟩ (m_X7_finds l hL N e9 H.size) (cwV 2 hts gX7_crossings_X7_finds rfl rfl rfl (by decide +kernel) ⟨Nat.le_of_ble_eq_true rfl, Nat.le_of_ble_eq_true rfl⟩) (z_preV (q := (RX7, TX7, 20)) hK hL hE hW hS (zK_of g4) (by decide) rfl [.int x1, .int (1 : Int32)]) rfl rfl hl.1 rfl (lv_room (Nat.le_of_ble_eq_true rfl)) dX7_crossings_18 ⟨Nat.le_of_ble_eq_true rfl, Nat.le_of_ble_eq_true rfl⟩) (fun H locs hW hS => ?_)
    obtain ⟨g11, h⟩ := zg_some h
    refine z_lald hx hb hK hL hW g11 dX7_crossings_21 ?_
    refine lv_lstore_n (lv' := [(2, .long (zJ M10 b6 q8.toNatClampNeg)), (0, .ref (ad x0)), (1, .int x1)]) hx hb dX7_crossings_22 rfl hl (by decide) rfl (fun ls hl => ?_)
    refine lv_iconst (v := 1) hx hb dX7_crossings_23 (by decide) ?_
    refine lv_istore (lv' := [(4, .int (1 : Int32)), (2, .long (zJ M10 b6 q8.toNatClampNeg)), (0, .ref (ad x0)), (1, .int x1)]) hx hb dX7_crossings_24 hl (by decide) rfl (fun ls hl => ?_)
    exact t_X7_crossings_26 C0 N  N h hW hS (lv_sub hl [2, 3, 1, 0] rfl)
  · have h := zip c5 h
    refine lv_iconst (v := 0) hx hb dX7_crossings_9 (by decide) ?_
    exact z_iret hx hb hr hlocks hW hS (congrArg Prod.fst (Option.some.inj h)) (congrArg Prod.snd (Option.some.inj h)) dX7_crossings_10
def f_X7_crossings (N : Nat) (K len : Nat → Nat) (a0 : Nat) (a1 : Int32) (M : ZM) : Option (Int32 × ZM) := f_X7_crossings_0 N K len a0 a1 M
set_option maxRecDepth 100000 in
set_option maxHeartbeats 4000000 in
theorem m_X7_crossings (l : Launch) {D : va_G} {cy : Nat → ClassId} {ad : Nat → Nat} {L : List Nat} {K len : Nat → Nat} (hL : zSh ad L K) (N : Nat) {a0 : Nat} {a1 : Int32} {M : ZM} {r : Int32} {Mr : ZM} (h : f_X7_crossings N K len a0 a1 M = some (r, Mr)) (sz : Nat) : Met l yX7_crossings wsX7_crossings ({ frames := 6, cells := 0, slots := 0, locals := 147 } : Room) (zPre D cy ad L K len sz [.ref (ad a0), .int a1] M) (zQi D cy ad L K len r Mr sz) 0 0 (zA ad L sz) :=
  z_entry (Qf := fun sz => zQi D cy ad L K len r Mr sz) (av := [.ref (ad a0), .int a1]) (by decide) rfl rfl hL (Nat.le_of_ble_eq_true rfl) (fun p e s m args below meth c C0 H locs ls hW hS hl => t_X7_crossings_0 C0 N h hW hS (lv_sub hl [0, 1] rfl))
def f_X7_asksRank_50 (N : Nat) (K len : Nat → Nat) (x0 : Nat) (x5 : Int32) (M : ZM) : Option (Int32 × ZM) :=
zbp (f_X7_asks N K len x0 x5 M) fun q1 M3 => (
zg (K x0 == 8) (
zg (zbo q1) (
some (q1, M3))))
set_option maxRecDepth 100000 in
set_option maxHeartbeats 4000000 in
theorem t_X7_asksRank_50 {p : Program} {l : Launch} {e : Env} {s : State} {m : MethodId} {args : Array Value} {below : List Frame} {meth : Method} {c : Code} {D : va_G} {cy : Nat → ClassId} {ad : Nat → Nat} {L : List Nat} {K len : Nat → Nat} (C0 : zCx p s m c meth args cX7_asksRank 6 wsX7_asksRank RX7 (some .boolean) D cy ad L K) (N : Nat) {x0 : Nat} {x5 : Int32} {M : ZM} {r : Int32} {Mr : ZM} (h : f_X7_asksRank_50 N K len x0 x5 M = some (r, Mr)) {H : Heap} {locs : List Loc} {ls : Array Slot} (hW : zWd D cy ad L K len M H) (hS : va_S (zA ad L s.heap.size) s.heap H locs) (hl : lv_has ls 6 [(0, .ref (ad x0)), (5, .int x5)]) : W p l e (headSpec wsX7_asksRank ({ frames := 5, cells := 0, slots := 0, locals := 128 } : Room)).room s m args below meth c H locs 0 0 (MQ below (zQi D cy ad L K len r Mr s.heap.size) args s 0 0 (zA ad L s.heap.size)) (F0 m 50 ls []) := by
  obtain ⟨hx, hb, hr, hml, hown, hts, hlocks, hK, hL, hE⟩ := id C0
  unfold f_X7_asksRank_50 at h
  refine lv_aload_n hx hb dX7_asksRank_50 rfl (lv_at hl 0 rfl) ?_
  refine lv_iload hx hb dX7_asksRank_51 (lv_at hl 1 rfl) ?_
  obtain ⟨q1, M3, e2, h⟩ := zbp_some h
  obtain ⟨g4, h⟩ := zg_some h
  refine z_calli hS (va_runV (As := [.int x5]) (rest := []) ⟨hx, hb, hml, hown, hts⟩ (m_X7_asks l hL N e2 H.size) (cwV 1 hts gX7_asksRank_X7_asks rfl rfl rfl (by decide +kernel) ⟨Nat.le_of_ble_eq_true rfl, Nat.le_of_ble_eq_true rfl⟩) (z_preV (q := (RX7, TX7, 20)) hK hL hE hW hS (zK_of g4) (by decide) rfl [.int x5]) rfl rfl hl.1 rfl (lv_room (Nat.le_of_ble_eq_true rfl)) dX7_asksRank_53 ⟨Nat.le_of_ble_eq_true rfl, Nat.le_of_ble_eq_true rfl⟩) (fun H locs hW hS => ?_)
  obtain ⟨g5, h⟩ := zg_some h
  exact z_zret hx hb hr hlocks hW hS g5 (congrArg Prod.fst (Option.some.inj h)) (congrArg Prod.snd (Option.some.inj h)) dX7_asksRank_56
def f_X7_asksRank_37 (N : Nat) (K len : Nat → Nat) (x0 : Nat) (x1 : Int32) (x2 : Int32) (s0 : Int32) (M : ZM) : Option (Int32 × ZM) :=
(if s0 = 0 then
f_X7_asksRank_50 N K len  x0 s0 M
else
(f_X7_lists N K len x0 x1 x2 M).bind fun M4 => (
zg (K x0 == 8) (
f_X7_asksRank_50 N K len  x0 s0 M4)))
set_option maxRecDepth 100000 in
set_option maxHeartbeats 4000000 in
theorem t_X7_asksRank_37 {p : Program} {l : Launch} {e : Env} {s : State} {m : MethodId} {args : Array Value} {below : List Frame} {meth : Method} {c : Code} {D : va_G} {cy : Nat → ClassId} {ad : Nat → Nat} {L : List Nat} {K len : Nat → Nat} (C0 : zCx p s m c meth args cX7_asksRank 6 wsX7_asksRank RX7 (some .boolean) D cy ad L K) (N : Nat) {x0 : Nat} {x1 : Int32} {x2 : Int32} {s0 : Int32} {M : ZM} {r : Int32} {Mr : ZM} (h : f_X7_asksRank_37 N K len x0 x1 x2 s0 M = some (r, Mr)) {H : Heap} {locs : List Loc} {ls : Array Slot} (hW : zWd D cy ad L K len M H) (hS : va_S (zA ad L s.heap.size) s.heap H locs) (hl : lv_has ls 6 [(0, .ref (ad x0)), (1, .int x1), (2, .int x2)]) : W p l e (headSpec wsX7_asksRank ({ frames := 5, cells := 0, slots := 0, locals := 128 } : Room)).room s m args below meth c H locs 0 0 (MQ below (zQi D cy ad L K len r Mr s.heap.size) args s 0 0 (zA ad L s.heap.size)) (F0 m 37 ls [.int s0]) := by
  obtain ⟨hx, hb, hr, hml, hown, hts, hlocks, hK, hL, hE⟩ := id C0
  unfold f_X7_asksRank_37 at h
  refine lv_istore (lv' := [(5, .int s0), (0, .ref (ad x0)), (1, .int x1), (2, .int x2)]) hx hb dX7_asksRank_37 hl (by decide) rfl (fun ls hl => ?_)
  refine lv_iload hx hb dX7_asksRank_39 (lv_at hl 0 rfl) ?_
  refine lv_if_eq (tgt := 50) hx hb dX7_asksRank_41 (by decide) (fun c1 => ?_) (fun c1 => ?_)
  · have h := zip c1 h
    exact t_X7_asksRank_50 C0 N  h hW hS (lv_sub hl [1, 0] rfl)
  · have h := zin c1 h
    refine lv_aload_n hx hb dX7_asksRank_44 rfl (lv_at hl 1 rfl) ?_
    refine lv_iload_n hx hb dX7_asksRank_45 rfl (lv_at hl 2 rfl) ?_
    refine lv_iload_n hx hb dX7_asksRank_46 rfl (lv_at hl 3 rfl) ?_
    obtain ⟨M4, e3, h⟩ := zb_some h
    obtain ⟨g5, h⟩ := zg_some h
    refine z_callv hS (va_runV (As := [.int x1, .int x2]) (rest := []) ⟨hx, hb, hml, hown, hts⟩ (m_X7_lists l hL N e3 H.size) (cwV 2 hts gX7_asksRank_X7_lists rfl rfl rfl (by decide +kernel) ⟨Nat.le_of_ble_eq_true rfl, Nat.le_of_ble_eq_true rfl⟩) (z_preV (q := (RX7, TX7, 20)) hK hL hE hW hS (zK_of g5) (by decide) rfl [.int x1, .int x2]) rfl rfl hl.1 rfl (lv_room (Nat.le_of_ble_eq_true rfl)) dX7_asksRank_47 ⟨Nat.le_of_ble_eq_true rfl, Nat.le_of_ble_eq_true rfl⟩) (fun H locs hW hS => ?_)
    exact t_X7_asksRank_50 C0 N  h hW hS (lv_sub hl [1, 0] rfl)
def f_X7_asksRank_36 (N : Nat) (K len : Nat → Nat) (x0 : Nat) (x1 : Int32) (x2 : Int32) (M : ZM) : Option (Int32 × ZM) :=
f_X7_asksRank_37 N K len  x0 x1 x2 (0 : Int32) M
set_option maxRecDepth 100000 in
set_option maxHeartbeats 4000000 in
theorem t_X7_asksRank_36 {p : Program} {l : Launch} {e : Env} {s : State} {m : MethodId} {args : Array Value} {below : List Frame} {meth : Method} {c : Code} {D : va_G} {cy : Nat → ClassId} {ad : Nat → Nat} {L : List Nat} {K len : Nat → Nat} (C0 : zCx p s m c meth args cX7_asksRank 6 wsX7_asksRank RX7 (some .boolean) D cy ad L K) (N : Nat) {x0 : Nat} {x1 : Int32} {x2 : Int32} {M : ZM} {r : Int32} {Mr : ZM} (h : f_X7_asksRank_36 N K len x0 x1 x2 M = some (r, Mr)) {H : Heap} {locs : List Loc} {ls : Array Slot} (hW : zWd D cy ad L K len M H) (hS : va_S (zA ad L s.heap.size) s.heap H locs) (hl : lv_has ls 6 [(0, .ref (ad x0)), (1, .int x1), (2, .int x2)]) : W p l e (headSpec wsX7_asksRank ({ frames := 5, cells := 0, slots := 0, locals := 128 } : Room)).room s m args below meth c H locs 0 0 (MQ below (zQi D cy ad L K len r Mr s.heap.size) args s 0 0 (zA ad L s.heap.size)) (F0 m 36 ls []) := by
  obtain ⟨hx, hb, hr, hml, hown, hts, hlocks, hK, hL, hE⟩ := id C0
  unfold f_X7_asksRank_36 at h
  refine lv_iconst (v := 0) hx hb dX7_asksRank_36 (by decide) ?_
  exact t_X7_asksRank_37 C0 N  h hW hS (lv_sub hl [0, 1, 2] rfl)
def f_X7_asksRank_0 (N : Nat) (K len : Nat → Nat) (x0 : Nat) (x1 : Int32) (x2 : Int32) (x3 : Int32) (x4 : Int32) (M : ZM) : Option (Int32 × ZM) :=
(f_X7_isSentence N K len x0 x1 M).bind fun q1 => (
zg (K x0 == 8) (
(if q1 = 0 then
f_X7_asksRank_36 N K len  x0 x1 x2 M
else
(if x4 = 0 then
f_X7_asksRank_36 N K len  x0 x1 x2 M
else
(if x3 < 0 then
f_X7_asksRank_36 N K len  x0 x1 x2 M
else
(zR M x0 16).bind fun b7 => (
zbp (f_X7_finds N K len x0 x1 x2 M) fun q9 M11 => (
zg (zok K len b7 11 q9) (
(if (zI M11 b7 q9.toNatClampNeg) ≤ x3 then
f_X7_asksRank_36 N K len  x0 x1 x2 M11
else
f_X7_asksRank_37 N K len  x0 x1 x2 (1 : Int32) M11)))))))))
set_option maxRecDepth 100000 in
set_option maxHeartbeats 4000000 in
theorem t_X7_asksRank_0 {p : Program} {l : Launch} {e : Env} {s : State} {m : MethodId} {args : Array Value} {below : List Frame} {meth : Method} {c : Code} {D : va_G} {cy : Nat → ClassId} {ad : Nat → Nat} {L : List Nat} {K len : Nat → Nat} (C0 : zCx p s m c meth args cX7_asksRank 6 wsX7_asksRank RX7 (some .boolean) D cy ad L K) (N : Nat) {x0 : Nat} {x1 : Int32} {x2 : Int32} {x3 : Int32} {x4 : Int32} {M : ZM} {r : Int32} {Mr : ZM} (h : f_X7_asksRank_0 N K len x0 x1 x2 x3 x4 M = some (r, Mr)) {H : Heap} {locs : List Loc} {ls : Array Slot} (hW : zWd D cy ad L K len M H) (hS : va_S (zA ad L s.heap.size) s.heap H locs) (hl : lv_has ls 6 [(0, .ref (ad x0)), (1, .int x1), (2, .int x2), (3, .int x3), (4, .int x4)]) : W p l e (headSpec wsX7_asksRank ({ frames := 5, cells := 0, slots := 0, locals := 128 } : Room)).room s m args below meth c H locs 0 0 (MQ below (zQi D cy ad L K len r Mr s.heap.size) args s 0 0 (zA ad L s.heap.size)) (F0 m 0 ls []) := by
  obtain ⟨hx, hb, hr, hml, hown, hts, hlocks, hK, hL, hE⟩ := id C0
  have hinX7 : ∀ w ∈ wsX70, w ∈ wsX7_asksRank := by decide +kernel
  unfold f_X7_asksRank_0 at h
  refine lv_aload_n hx hb dX7_asksRank_0 rfl (lv_at hl 0 rfl) ?_
  refine lv_iload_n hx hb dX7_asksRank_1 rfl (lv_at hl 1 rfl) ?_
  obtain ⟨q1, e2, h⟩ := zb_some h
  obtain ⟨g3, h⟩ := zg_some h
  refine z_calli hS (va_runV (As := [.int x1]) (rest := []) ⟨hx, hb, hml, hown, hts⟩ (m_X7_isSentence l hL N e2 H.size) (cwV 1 hts gX7_asksRank_X7_isSentence rfl rfl rfl (by decide +kernel) ⟨Nat.le_of_ble_eq_true rfl, Nat.le_of_ble_eq_true rfl⟩) (z_preV (q := (RX7, TX7, 20)) hK hL hE hW hS (zK_of g3) (by decide) rfl [.int x1]) rfl rfl hl.1 rfl (lv_room (Nat.le_of_ble_eq_true rfl)) dX7_asksRank_2 ⟨Nat.le_of_ble_eq_true rfl, Nat.le_of_ble_eq_true rfl⟩) (fun H locs hW hS => ?_)
  refine lv_if_eq (tgt := 36) hx hb dX7_asksRank_5 (by decide) (fun c4 => ?_) (fun c4 => ?_)
  · have h := zip c4 h
    exact t_X7_asksRank_36 C0 N  h hW hS (lv_sub hl [0, 1, 2] rfl)
  · have h := zin c4 h
    refine lv_iload hx hb dX7_asksRank_8 (lv_at hl 4 rfl) ?_
    refine lv_if_eq (tgt := 36) hx hb dX7_asksRank_10 (by decide) (fun c5 => ?_) (fun c5 => ?_)
    · have h := zip c5 h
      exact t_X7_asksRank_36 C0 N  h hW hS (lv_sub hl [0, 1, 2] rfl)
    · have h := zin c5 h
      refine lv_iload_n hx hb dX7_asksRank_13 rfl (lv_at hl 3 rfl) ?_
      refine lv_if_lt (tgt := 36) hx hb dX7_asksRank_14 (by decide) (fun c6 => ?_) (fun c6 => ?_)
      · have h := zip c6 h
        exact t_X7_asksRank_36 C0 N  h hW hS (lv_sub hl [0, 1, 2] rfl)
      · have h := zin c6 h
        refine lv_iload_n hx hb dX7_asksRank_17 rfl (lv_at hl 3 rfl) ?_
        refine lv_aload_n hx hb dX7_asksRank_18 rfl (lv_at hl 0 rfl) ?_
        obtain ⟨b7, e8, h⟩ := zb_some h
        refine z_get (own := RX7) (C := RX7) (T := TX7) (N := 20) (ci := 7) hx hb hts hinX7 hown hK hL hW 16 (zK_of g3) rfl (by decide) (by decide) rfl (hts (.fieldLink RX7 45 "ArcLightModel" "count" "[I") (by decide +kernel)) (v := .ref (ad b7)) (zhvR e8 rfl) dX7_asksRank_19 ?_
        refine lv_aload_n hx hb dX7_asksRank_22 rfl (lv_at hl 0 rfl) ?_
        refine lv_iload_n hx hb dX7_asksRank_23 rfl (lv_at hl 1 rfl) ?_
        refine lv_iload_n hx hb dX7_asksRank_24 rfl (lv_at hl 2 rfl) ?_
        obtain ⟨q9, M11, e10, h⟩ := zbp_some h
        refine z_calli hS (va_runV (As := [.int x1, .int x2]) (rest := [.ref (ad b7), .int x3]) ⟨hx, hb, hml, hown, hts⟩ (m_X7_finds l hL N e10 H.size) (cwV 2 hts gX7_asksRank_X7_finds rfl rfl rfl (by decide +kernel) ⟨Nat.le_of_ble_eq_true rfl, Nat.le_of_ble_eq_true rfl⟩) (z_preV (q := (RX7, TX7, 20)) hK hL hE hW hS (zK_of g3) (by decide) rfl [.int x1, .int x2]) rfl rfl hl.1 rfl (lv_room (Nat.le_of_ble_eq_true rfl)) dX7_asksRank_25 ⟨Nat.le_of_ble_eq_true rfl, Nat.le_of_ble_eq_true rfl⟩) (fun H locs hW hS => ?_)
        obtain ⟨g12, h⟩ := zg_some h
        refine z_iald hx hb hK hL hW g12 dX7_asksRank_28 ?_
        refine lv_icmp_ge (tgt := 36) hx hb dX7_asksRank_29 (by decide) (fun c13 => ?_) (fun c13 => ?_)
        · have h := zip c13 h
          exact t_X7_asksRank_36 C0 N  h hW hS (lv_sub hl [0, 1, 2] rfl)
        · have h := zin c13 h
          refine lv_iconst (v := 1) hx hb dX7_asksRank_32 (by decide) ?_
          refine lv_goto (tgt := 37) hx hb dX7_asksRank_33 (by decide) ?_
          exact t_X7_asksRank_37 C0 N  h hW hS (lv_sub hl [0, 1, 2] rfl)
def f_X7_asksRank (N : Nat) (K len : Nat → Nat) (a0 : Nat) (a1 : Int32) (a2 : Int32) (a3 : Int32) (a4 : Int32) (M : ZM) : Option (Int32 × ZM) := f_X7_asksRank_0 N K len a0 a1 a2 a3 a4 M
set_option maxRecDepth 100000 in
set_option maxHeartbeats 4000000 in
theorem m_X7_asksRank (l : Launch) {D : va_G} {cy : Nat → ClassId} {ad : Nat → Nat} {L : List Nat} {K len : Nat → Nat} (hL : zSh ad L K) (N : Nat) {a0 : Nat} {a1 : Int32} {a2 : Int32} {a3 : Int32} {a4 : Int32} {M : ZM} {r : Int32} {Mr : ZM} (h : f_X7_asksRank N K len a0 a1 a2 a3 a4 M = some (r, Mr)) (sz : Nat) : Met l yX7_asksRank wsX7_asksRank ({ frames := 5, cells := 0, slots := 0, locals := 128 } : Room) (zPre D cy ad L K len sz [.ref (ad a0), .int a1, .int a2, .int a3, .int a4] M) (zQi D cy ad L K len r Mr sz) 0 0 (zA ad L sz) :=
  z_entry (Qf := fun sz => zQi D cy ad L K len r Mr sz) (av := [.ref (ad a0), .int a1, .int a2, .int a3, .int a4]) (by decide) rfl rfl hL (Nat.le_of_ble_eq_true rfl) (fun p e s m args below meth c C0 H locs ls hW hS hl => t_X7_asksRank_0 C0 N h hW hS (lv_sub hl [0, 1, 2, 3, 4] rfl))
def f_X7_ranked_0 (N : Nat) (K len : Nat → Nat) (x0 : Nat) (x1 : Int32) (x2 : Int32) (x3 : Int32) (M : ZM) : Option (Int32 × ZM) :=
zbp (f_X7_asksRank N K len x0 x1 x2 x3 (1 : Int32) M) fun q1 M3 => (
zg (K x0 == 8) (
(if q1 = 0 then
some ((0 : Int32), M3)
else
(zR M3 x0 12).bind fun b6 => (
zg (zok K len b6 12 x3) (
(f_X7_scoreIn N x0 (zJ M3 b6 x3.toNatClampNeg)).bind fun q9 => (
some (q9, M3)))))))
set_option maxRecDepth 100000 in
set_option maxHeartbeats 4000000 in
theorem t_X7_ranked_0 {p : Program} {l : Launch} {e : Env} {s : State} {m : MethodId} {args : Array Value} {below : List Frame} {meth : Method} {c : Code} {D : va_G} {cy : Nat → ClassId} {ad : Nat → Nat} {L : List Nat} {K len : Nat → Nat} (C0 : zCx p s m c meth args cX7_ranked 4 wsX7_ranked RX7 (some .int) D cy ad L K) (N : Nat) {x0 : Nat} {x1 : Int32} {x2 : Int32} {x3 : Int32} {M : ZM} {r : Int32} {Mr : ZM} (h : f_X7_ranked_0 N K len x0 x1 x2 x3 M = some (r, Mr)) {H : Heap} {locs : List Loc} {ls : Array Slot} (hW : zWd D cy ad L K len M H) (hS : va_S (zA ad L s.heap.size) s.heap H locs) (hl : lv_has ls 4 [(0, .ref (ad x0)), (1, .int x1), (2, .int x2), (3, .int x3)]) : W p l e (headSpec wsX7_ranked ({ frames := 6, cells := 0, slots := 0, locals := 153 } : Room)).room s m args below meth c H locs 0 0 (MQ below (zQi D cy ad L K len r Mr s.heap.size) args s 0 0 (zA ad L s.heap.size)) (F0 m 0 ls []) := by
  obtain ⟨hx, hb, hr, hml, hown, hts, hlocks, hK, hL, hE⟩ := id C0
  have hinX7 : ∀ w ∈ wsX70, w ∈ wsX7_ranked := by decide +kernel
  unfold f_X7_ranked_0 at h
  refine lv_aload_n hx hb dX7_ranked_0 rfl (lv_at hl 0 rfl) ?_
  refine lv_iload_n hx hb dX7_ranked_1 rfl (lv_at hl 1 rfl) ?_
  refine lv_iload_n hx hb dX7_ranked_2 rfl (lv_at hl 2 rfl) ?_
  refine lv_iload_n hx hb dX7_ranked_3 rfl (lv_at hl 3 rfl) ?_
  refine lv_iconst (v := 1) hx hb dX7_ranked_4 (by decide) ?_
  obtain ⟨q1, M3, e2, h⟩ := zbp_some h
  obtain ⟨g4, h⟩ := zg_some h
  refine z_calli hS (va_runV (As := [.int x1, .int x2, .int x3, .int (1 : Int32)]) (rest := []) ⟨hx, hb, hml, hown, hts⟩ (m_X7_asksRank l hL N e2 H.size) (cwV 4 hts gX7_ranked_X7_asksRank rfl rfl rfl (by decide +kernel) ⟨Nat.le_of_ble_eq_true rfl, Nat.le_of_ble_eq_true rfl⟩) (z_preV (q := (RX7, TX7, 20)) hK hL hE hW hS (zK_of g4) (by decide) rfl [.int x1, .int x2, .int x3, .int (1 : Int32)]) rfl rfl hl.1 rfl (lv_room (Nat.le_of_ble_eq_true rfl)) dX7_ranked_5 ⟨Nat.le_of_ble_eq_true rfl, Nat.le_of_ble_eq_true rfl⟩) (fun H locs hW hS => ?_)
  refine lv_if_eq (tgt := 24) hx hb dX7_ranked_8 (by decide) (fun c5 => ?_) (fun c5 => ?_)
  · have h := zip c5 h
    refine lv_iconst (v := 0) hx hb dX7_ranked_24 (by decide) ?_
    exact z_iret hx hb hr hlocks hW hS (congrArg Prod.fst (Option.some.inj h)) (congrArg Prod.snd (Option.some.inj h)) dX7_ranked_25
  · have h := zin c5 h
    refine lv_aload_n hx hb dX7_ranked_11 rfl (lv_at hl 0 rfl) ?_
    refine lv_aload_n hx hb dX7_ranked_12 rfl (lv_at hl 0 rfl) ?_
    obtain ⟨b6, e7, h⟩ := zb_some h
    refine z_get (own := RX7) (C := RX7) (T := TX7) (N := 20) (ci := 7) hx hb hts hinX7 hown hK hL hW 12 (zK_of g4) rfl (by decide) (by decide) rfl (hts (.fieldLink RX7 35 "ArcLightModel" "tree" "[J") (by decide +kernel)) (v := .ref (ad b6)) (zhvR e7 rfl) dX7_ranked_13 ?_
    refine lv_iload_n hx hb dX7_ranked_16 rfl (lv_at hl 3 rfl) ?_
    obtain ⟨g8, h⟩ := zg_some h
    refine z_lald hx hb hK hL hW g8 dX7_ranked_17 ?_
    obtain ⟨q9, e10, h⟩ := zb_some h
    refine z_calli hS (va_runV (As := [.long (zJ M3 b6 x3.toNatClampNeg)]) (rest := []) ⟨hx, hb, hml, hown, hts⟩ (m_X7_scoreIn l (M := M3) hL N e10 H.size) (cwV 1 hts gX7_ranked_X7_scoreIn rfl rfl rfl (by decide +kernel) ⟨Nat.le_of_ble_eq_true rfl, Nat.le_of_ble_eq_true rfl⟩) (z_preV (q := (RX7, TX7, 20)) hK hL hE hW hS (zK_of g4) (by decide) rfl [.long (zJ M3 b6 x3.toNatClampNeg)]) rfl rfl hl.1 rfl (lv_room (Nat.le_of_ble_eq_true rfl)) dX7_ranked_18 ⟨Nat.le_of_ble_eq_true rfl, Nat.le_of_ble_eq_true rfl⟩) (fun H locs hW hS => ?_)
    refine lv_goto (tgt := 25) hx hb dX7_ranked_21 (by decide) ?_
    exact z_iret hx hb hr hlocks hW hS (congrArg Prod.fst (Option.some.inj h)) (congrArg Prod.snd (Option.some.inj h)) dX7_ranked_25
def f_X7_ranked (N : Nat) (K len : Nat → Nat) (a0 : Nat) (a1 : Int32) (a2 : Int32) (a3 : Int32) (M : ZM) : Option (Int32 × ZM) := f_X7_ranked_0 N K len a0 a1 a2 a3 M
set_option maxRecDepth 100000 in
set_option maxHeartbeats 4000000 in
theorem m_X7_ranked (l : Launch) {D : va_G} {cy : Nat → ClassId} {ad : Nat → Nat} {L : List Nat} {K len : Nat → Nat} (hL : zSh ad L K) (N : Nat) {a0 : Nat} {a1 : Int32} {a2 : Int32} {a3 : Int32} {M : ZM} {r : Int32} {Mr : ZM} (h : f_X7_ranked N K len a0 a1 a2 a3 M = some (r, Mr)) (sz : Nat) : Met l yX7_ranked wsX7_ranked ({ frames := 6, cells := 0, slots := 0, locals := 153 } : Room) (zPre D cy ad L K len sz [.ref (ad a0), .int a1, .int a2, .int a3] M) (zQi D cy ad L K len r Mr sz) 0 0 (zA ad L sz) :=
  z_entry (Qf := fun sz => zQi D cy ad L K len r Mr sz) (av := [.ref (ad a0), .int a1, .int a2, .int a3]) (by decide) rfl rfl hL (Nat.le_of_ble_eq_true rfl) (fun p e s m args below meth c C0 H locs ls hW hS hl => t_X7_ranked_0 C0 N h hW hS (lv_sub hl [0, 1, 2, 3] rfl))
def f_X7_rankedHead_0 (N : Nat) (K len : Nat → Nat) (x0 : Nat) (x1 : Int32) (x2 : Int32) (x3 : Int32) (x4 : Int32) (M : ZM) : Option (Int32 × ZM) :=
(f_X7_isWord N K len x0 x1 x4 M).bind fun q1 => (
zg (K x0 == 8) (
zbp (f_X7_asksRank N K len x0 x1 x2 x3 q1 M) fun q4 M6 => (
(if q4 = 0 then
some ((0 : Int32), M6)
else
(zR M6 x0 12).bind fun b8 => (
zg (zok K len b8 12 x3) (
(f_X7_headIn N K len x0 x1 (zJ M6 b8 x3.toNatClampNeg) x4 M6).bind fun q11 => (
some (q11, M6))))))))
set_option maxRecDepth 100000 in
set_option maxHeartbeats 4000000 in
theorem t_X7_rankedHead_0 {p : Program} {l : Launch} {e : Env} {s : State} {m : MethodId} {args : Array Value} {below : List Frame} {meth : Method} {c : Code} {D : va_G} {cy : Nat → ClassId} {ad : Nat → Nat} {L : List Nat} {K len : Nat → Nat} (C0 : zCx p s m c meth args cX7_rankedHead 5 wsX7_rankedHead RX7 (some .int) D cy ad L K) (N : Nat) {x0 : Nat} {x1 : Int32} {x2 : Int32} {x3 : Int32} {x4 : Int32} {M : ZM} {r : Int32} {Mr : ZM} (h : f_X7_rankedHead_0 N K len x0 x1 x2 x3 x4 M = some (r, Mr)) {H : Heap} {locs : List Loc} {ls : Array Slot} (hW : zWd D cy ad L K len M H) (hS : va_S (zA ad L s.heap.size) s.heap H locs) (hl : lv_has ls 5 [(0, .ref (ad x0)), (1, .int x1), (2, .int x2), (3, .int x3), (4, .int x4)]) : W p l e (headSpec wsX7_rankedHead ({ frames := 6, cells := 0, slots := 0, locals := 153 } : Room)).room s m args below meth c H locs 0 0 (MQ below (zQi D cy ad L K len r Mr s.heap.size) args s 0 0 (zA ad L s.heap.size)) (F0 m 0 ls []) := by
  obtain ⟨hx, hb, hr, hml, hown, hts, hlocks, hK, hL, hE⟩ := id C0
  have hinX7 : ∀ w ∈ wsX70, w ∈ wsX7_rankedHead := by decide +kernel
  unfold f_X7_rankedHead_0 at h
  refine lv_aload_n hx hb dX7_rankedHead_0 rfl (lv_at hl 0 rfl) ?_
  refine lv_iload_n hx hb dX7_rankedHead_1 rfl (lv_at hl 1 rfl) ?_
  refine lv_iload_n hx hb dX7_rankedHead_2 rfl (lv_at hl 2 rfl) ?_
  refine lv_iload_n hx hb dX7_rankedHead_3 rfl (lv_at hl 3 rfl) ?_
  refine lv_aload_n hx hb dX7_rankedHead_4 rfl (lv_at hl 0 rfl) ?_
  refine lv_iload_n hx hb dX7_rankedHead_5 rfl (lv_at hl 1 rfl) ?_
  refine lv_iload hx hb dX7_rankedHead_6 (lv_at hl 4 rfl) ?_
  obtain ⟨q1, e2, h⟩ := zb_some h
  obtain ⟨g3, h⟩ := zg_some h
  refine z_calli hS (va_runV (As := [.int x1, .int x4]) (rest := [.int x3, .int x2, .int x1, .ref (ad x0)]) ⟨hx, hb, hml, hown, hts⟩ (m_X7_isWord l hL N e2 H.size) (cwV 2 hts gX7_rankedHead_X7_isWord rfl rfl rfl (by decide +kernel) ⟨Nat.le_of_ble_eq_true rfl, Nat.le_of_ble_eq_true rfl⟩) (z_preV (q := (RX7, TX7, 20)) hK hL hE hW hS (zK_of g3) (by decide) rfl [.int x1, .int x4]) rfl rfl hl.1 rfl (lv_room (Nat.le_of_ble_eq_true rfl)) dX7_rankedHead_8 ⟨Nat.le_of_ble_eq_true rfl, Nat.le_of_ble_eq_true rfl⟩) (fun H locs hW hS => ?_)
  obtain ⟨q4, M6, e5, h⟩ := zbp_some h
  refine z_calli hS (va_runV (As := [.int x1, .int x2, .int x3, .int q1]) (rest := []) ⟨hx, hb, hml, hown, hts⟩ (m_X7_asksRank l hL N e5 H.size) (cwV 4 hts gX7_rankedHead_X7_asksRank rfl rfl rfl (by decide +kernel) ⟨Nat.le_of_ble_eq_true rfl, Nat.le_of_ble_eq_true rfl⟩) (z_preV (q := (RX7, TX7, 20)) hK hL hE hW hS (zK_of g3) (by decide) rfl [.int x1, .int x2, .int x3, .int q1]) rfl rfl hl.1 rfl (lv_room (Nat.le_of_ble_eq_true rfl)) dX7_rankedHead_11 ⟨Nat.le_of_ble_eq_true rfl, Nat.le_of_ble_eq_true rfl⟩) (fun H locs hW hS => ?_)
  refine lv_if_eq (tgt := 33) hx hb dX7_rankedHead_14 (by decide) (fun c7 => ?_) (fun c7 => ?_)
  · have h := zip c7 h
    refine lv_iconst (v := 0) hx hb dX7_rankedHead_33 (by decide) ?_
    exact z_iret hx hb hr hlocks hW hS (congrArg Prod.fst (Option.some.inj h)) (congrArg Prod.snd (Option.some.inj h)) dX7_rankedHead_34
  · have h := zin c7 h
    refine lv_aload_n hx hb dX7_rankedHead_17 rfl (lv_at hl 0 rfl) ?_
    refine lv_iload_n hx hb dX7_rankedHead_18 rfl (lv_at hl 1 rfl) ?_
    refine lv_aload_n hx hb dX7_rankedHead_19 rfl (lv_at hl 0 rfl) ?_
    obtain ⟨b8, e9, h⟩ := zb_some h
    refine z_get (own := RX7) (C := RX7) (T := TX7) (N := 20) (ci := 7) hx hb hts hinX7 hown hK hL hW 12 (zK_of g3) rfl (by decide) (by decide) rfl (hts (.fieldLink RX7 35 "ArcLightModel" "tree" "[J") (by decide +kernel)) (v := .ref (ad b8)) (zhvR e9 rfl) dX7_rankedHead_20 ?_
    refine lv_iload_n hx hb dX7_rankedHead_23 rfl (lv_at hl 3 rfl) ?_
    obtain ⟨g10, h⟩ := zg_some h
    refine z_lald hx hb hK hL hW g10 dX7_rankedHead_24 ?_
    refine lv_iload hx hb dX7_rankedHead_25 (lv_at hl 4 rfl) ?_
    obtain ⟨q11, e12, h⟩ := zb_some h
    refine z_calli hS (va_runV (As := [.int x1, .long (zJ M6 b8 x3.toNatClampNeg), .int x4]) (rest := []) ⟨hx, hb, hml, hown, hts⟩ (m_X7_headIn l hL N e12 H.size) (cwV 3 hts gX7_rankedHead_X7_headIn rfl rfl rfl (by decide +kernel) ⟨Nat.le_of_ble_eq_true rfl, Nat.le_of_ble_eq_true rfl⟩) (z_preV (q := (RX7, TX7, 20)) hK hL hE hW hS (zK_of g3) (by decide) rfl [.int x1, .long (zJ M6 b8 x3.toNatClampNeg), .int x4]) rfl rfl hl.1 rfl (lv_room (Nat.le_of_ble_eq_true rfl)) dX7_rankedHead_27 ⟨Nat.le_of_ble_eq_true rfl, Nat.le_of_ble_eq_true rfl⟩) (fun H locs hW hS => ?_)
    refine lv_goto (tgt := 34) hx hb dX7_rankedHead_30 (by decide) ?_
    exact z_iret hx hb hr hlocks hW hS (congrArg Prod.fst (Option.some.inj h)) (congrArg Prod.snd (Option.some.inj h)) dX7_rankedHead_34
def f_X7_rankedHead (N : Nat) (K len : Nat → Nat) (a0 : Nat) (a1 : Int32) (a2 : Int32) (a3 : Int32) (a4 : Int32) (M : ZM) : Option (Int32 × ZM) := f_X7_rankedHead_0 N K len a0 a1 a2 a3 a4 M
set_option maxRecDepth 100000 in
set_option maxHeartbeats 4000000 in
theorem m_X7_rankedHead (l : Launch) {D : va_G} {cy : Nat → ClassId} {ad : Nat → Nat} {L : List Nat} {K len : Nat → Nat} (hL : zSh ad L K) (N : Nat) {a0 : Nat} {a1 : Int32} {a2 : Int32} {a3 : Int32} {a4 : Int32} {M : ZM} {r : Int32} {Mr : ZM} (h : f_X7_rankedHead N K len a0 a1 a2 a3 a4 M = some (r, Mr)) (sz : Nat) : Met l yX7_rankedHead wsX7_rankedHead ({ frames := 6, cells := 0, slots := 0, locals := 153 } : Room) (zPre D cy ad L K len sz [.ref (ad a0), .int a1, .int a2, .int a3, .int a4] M) (zQi D cy ad L K len r Mr sz) 0 0 (zA ad L sz) :=
  z_entry (Qf := fun sz => zQi D cy ad L K len r Mr sz) (av := [.ref (ad a0), .int a1, .int a2, .int a3, .int a4]) (by decide) rfl rfl hL (Nat.le_of_ble_eq_true rfl) (fun p e s m args below meth c C0 H locs ls hW hS hl => t_X7_rankedHead_0 C0 N h hW hS (lv_sub hl [0, 1, 2, 3, 4] rfl))

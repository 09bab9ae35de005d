/-! Walks laid by program (wip/whole/gen): X5_averageOf, X6_average -/
def f_X5_averageOf_14 (N : Nat) (K len : Nat → Nat) (M : ZM) : Option (UInt64) :=
some FP.dconst0
set_option maxRecDepth 100000 in
set_option maxHeartbeats 4000000 in
theorem t_X5_averageOf_14 {p : Program} {l : Launch} {e : Env} {s : State} {m : MethodId} {args : Array Value} {below : List Frame} {meth : Method} {c : Code} {D : va_G} {cy : Nat → ClassId} {ad : Nat → Nat} {L : List Nat} {K len : Nat → Nat} (C0 : zCx p s m c meth args cX5_averageOf 2 wsX5_averageOf RX5 (some .double) D cy ad L K) (N : Nat) {M : ZM} {r : UInt64} (h : f_X5_averageOf_14 N K len M = some r) {H : Heap} {locs : List Loc} {ls : Array Slot} (hW : zWd D cy ad L K len M H) (hS : va_S (zA ad L s.heap.size) s.heap H locs) (hl : lv_has ls 2 []) : W p l e (headSpec wsX5_averageOf ({ frames := 1, cells := 0, slots := 0, locals := 20 } : Room)).room s m args below meth c H locs 0 0 (MQ below (zQd D cy ad L K len r M s.heap.size) args s 0 0 (zA ad L s.heap.size)) (F0 m 14 ls []) := by
  obtain ⟨hx, hb, hr, hml, hown, hts, hlocks, hK, hL, hE⟩ := id C0
  unfold f_X5_averageOf_14 at h
  refine lv_dconst0 hx hb dX5_averageOf_14 ?_
  exact z_dret hx hb hr hlocks hW hS (Option.some.inj h) rfl dX5_averageOf_15
def f_X5_averageOf_0 (N : Nat) (K len : Nat → Nat) (x0 : Nat) (x1 : Int32) (M : ZM) : Option (UInt64) :=
zg (K x0 == 6) (
(if (zI M x0 2) = 0 then
f_X5_averageOf_14 N K len  M
else
(f_X5_isFeature N x1).bind fun q3 => (
(if q3 = 0 then
f_X5_averageOf_14 N K len  M
else
(zR M x0 1).bind fun b6 => (
zg (zok K len b6 12 x1) (
zg (!((zI M x0 2) == 0)) (
some (FP.ddiv (FP.l2d (zJ M b6 x1.toNatClampNeg)) (FP.i2d (zI M x0 2))))))))))
set_option maxRecDepth 100000 in
set_option maxHeartbeats 4000000 in
theorem t_X5_averageOf_0 {p : Program} {l : Launch} {e : Env} {s : State} {m : MethodId} {args : Array Value} {below : List Frame} {meth : Method} {c : Code} {D : va_G} {cy : Nat → ClassId} {ad : Nat → Nat} {L : List Nat} {K len : Nat → Nat} (C0 : zCx p s m c meth args cX5_averageOf 2 wsX5_averageOf RX5 (some .double) D cy ad L K) (N : Nat) {x0 : Nat} {x1 : Int32} {M : ZM} {r : UInt64} (h : f_X5_averageOf_0 N K len x0 x1 M = some r) {H : Heap} {locs : List Loc} {ls : Array Slot} (hW : zWd D cy ad L K len M H) (hS : va_S (zA ad L s.heap.size) s.heap H locs) (hl : lv_has ls 2 [(0, .ref (ad x0)), (1, .int x1)]) : W p l e (headSpec wsX5_averageOf ({ frames := 1, cells := 0, slots := 0, locals := 20 } : Room)).room s m args below meth c H locs 0 0 (MQ below (zQd D cy ad L K len r M s.heap.size) args s 0 0 (zA ad L s.heap.size)) (F0 m 0 ls []) := by
  obtain ⟨hx, hb, hr, hml, hown, hts, hlocks, hK, hL, hE⟩ := id C0
  have hinX5 : ∀ w ∈ wsX50, w ∈ wsX5_averageOf := by decide +kernel
  unfold f_X5_averageOf_0 at h
  refine lv_aload_n hx hb dX5_averageOf_0 rfl (lv_at hl 0 rfl) ?_
  obtain ⟨g1, h⟩ := zg_some h
  refine z_get (own := RX5) (C := RX5) (T := TX5) (N := 8) (ci := 5) hx hb hts hinX5 hown hK hL hW 2 (zK_of g1) rfl (by decide) (by decide) rfl (hts (.fieldLink RX5 19 "ArcLight$Weights" "steps" "I") (by decide +kernel)) (v := .int (zI M x0 2)) rfl dX5_averageOf_1 ?_
  refine lv_if_eq (tgt := 14) hx hb dX5_averageOf_4 (by decide) (fun c2 => ?_) (fun c2 => ?_)
  · have h := zip c2 h
    exact t_X5_averageOf_14 C0 N  h hW hS (lv_sub hl [] rfl)
  · have h := zin c2 h
    refine lv_iload_n hx hb dX5_averageOf_7 rfl (lv_at hl 1 rfl) ?_
    obtain ⟨q3, e4, h⟩ := zb_some h
    refine z_calli hS (va_runS (As := [.int x1]) (rest := []) ⟨hx, hb, hml, hown, hts⟩ (m_X5_isFeature l (M := M) hL N e4 H.size) (va_cwS 1 hts gX5_averageOf_X5_isFeature rfl rfl rfl (by decide +kernel) ⟨Nat.le_of_ble_eq_true rfl, Nat.le_of_ble_eq_true rfl⟩) (z_preS hK hE hW hS [.int x1]) rfl rfl hl.1 rfl (lv_room (Nat.le_of_ble_eq_true rfl)) dX5_averageOf_8 ⟨Nat.le_of_ble_eq_true rfl, Nat.le_of_ble_eq_true rfl⟩) (fun H locs hW hS => ?_)
    refine lv_if_ne (tgt := 16) hx hb dX5_averageOf_11 (by decide) (fun c5 => ?_) (fun c5 => ?_)
    · have h := zin c5 h
      refine lv_aload_n hx hb dX5_averageOf_16 rfl (lv_at hl 0 rfl) ?_
      obtain ⟨b6, e7, h⟩ := zb_some h
      refine z_get (own := RX5) (C := RX5) (T := TX5) (N := 8) (ci := 5) hx hb hts hinX5 hown hK hL hW 1 (zK_of g1) rfl (by decide) (by decide) rfl (hts (.fieldLink RX5 15 "ArcLight$Weights" "sums" "[J") (by decide +kernel)) (v := .ref (ad b6)) (zhvR e7 rfl) dX5_averageOf_17 ?_
      refine lv_iload_n hx hb dX5_averageOf_20 rfl (lv_at hl 1 rfl) ?_
      obtain ⟨g8, h⟩ := zg_some h
      refine z_lald hx hb hK hL hW g8 dX5_averageOf_21 ?_
      refine lv_l2d hx hb dX5_averageOf_22 ?_
      refine lv_aload_n hx hb dX5_averageOf_23 rfl (lv_at hl 0 rfl) ?_
      refine z_get (own := RX5) (C := RX5) (T := TX5) (N := 8) (ci := 5) hx hb hts hinX5 hown hK hL hW 2 (zK_of g1) rfl (by decide) (by decide) rfl (hts (.fieldLink RX5 19 "ArcLight$Weights" "steps" "I") (by decide +kernel)) (v := .int (zI M x0 2)) rfl dX5_averageOf_24 ?_
      refine lv_i2d hx hb dX5_averageOf_27 ?_
      obtain ⟨g9, h⟩ := zg_some h
      refine lv_ddiv hx hb dX5_averageOf_28 (z_avg_ok (zJ M b6 x1.toNatClampNeg) (zne_of g9)) ?_
      exact z_dret hx hb hr hlocks hW hS (Option.some.inj h) rfl dX5_averageOf_29
    · have h := zip c5 h
      exact t_X5_averageOf_14 C0 N  h hW hS (lv_sub hl [] rfl)
def f_X5_averageOf (N : Nat) (K len : Nat → Nat) (a0 : Nat) (a1 : Int32) (M : ZM) : Option (UInt64) := f_X5_averageOf_0 N K len a0 a1 M
set_option maxRecDepth 100000 in
set_option maxHeartbeats 4000000 in
theorem m_X5_averageOf (l : Launch) {D : va_G} {cy : Nat → ClassId} {ad : Nat → Nat} {L : List Nat} {K len : Nat → Nat} (hL : zSh ad L K) (N : Nat) {a0 : Nat} {a1 : Int32} {M : ZM} {r : UInt64} (h : f_X5_averageOf N K len a0 a1 M = some r) (sz : Nat) : Met l yX5_averageOf wsX5_averageOf ({ frames := 1, cells := 0, slots := 0, locals := 20 } : Room) (zPre D cy ad L K len sz [.ref (ad a0), .int a1] M) (zQd D cy ad L K len r M sz) 0 0 (zA ad L sz) :=
  z_entry (Qf := fun sz => zQd D cy ad L K len r M sz) (av := [.ref (ad a0), .int a1]) (by decide) rfl rfl hL (Nat.le_of_ble_eq_true rfl) (fun p e s m args below meth c C0 H locs ls hW hS hl => t_X5_averageOf_0 C0 N h hW hS (lv_sub hl [0, 1] rfl))
def f_X6_average_0 (N : Nat) (K len : Nat → Nat) (x0 : Nat) (x1 : Int32) (M : ZM) : Option (Nat ⊕ UInt64) :=
(f_X6_checkFeature N x1).bind fun q1 => (
zx q1 (fun k => some (Sum.inl k)) fun r3 => (
zg (K x0 == 7) (
(zR M x0 2).bind fun b5 => (
(f_X5_averageOf N K len b5 x1 M).bind fun q7 => (
zg (K b5 == 6) (
some (Sum.inr q7)))))))
set_option maxRecDepth 100000 in
set_option maxHeartbeats 4000000 in
theorem t_X6_average_0 {p : Program} {l : Launch} {e : Env} {s : State} {m : MethodId} {args : Array Value} {below : List Frame} {meth : Method} {c : Code} {D : va_G} {cy : Nat → ClassId} {ad : Nat → Nat} {L : List Nat} {K len : Nat → Nat} (C0 : zCxX p l s m c meth args cX6_average 2 wsX6_average RX6 (some .double) D cy ad L K) (N : Nat) {x0 : Nat} {x1 : Int32} {M : ZM} {o : Nat ⊕ UInt64} (h : f_X6_average_0 N K len x0 x1 M = some o) {H : Heap} {locs : List Loc} {ls : Array Slot} (hW : zWd D cy ad L K len M H) (hS : va_S (zA ad L s.heap.size) s.heap H locs) (hl : lv_has ls 2 [(0, .ref (ad x0)), (1, .int x1)]) : W p l e (headSpec wsX6_average ({ frames := 7, cells := 1, slots := 6, locals := 110 } : Room)).room s m args below meth c H locs 0 0 (vx_MQ below (zY D cy ad L K len zvD o M s.heap.size) (zX D cy ad L K len o M s.heap.size) args s 1 6 (zA ad L s.heap.size)) (F0 m 0 ls []) := by
  obtain ⟨⟨hx, hb, hr, hml, hown, hts, hlocks, hK, hL, hE⟩, hlt, hex⟩ := id C0
  have hinX6 : ∀ w ∈ wsX60, w ∈ wsX6_average := by decide +kernel
  unfold f_X6_average_0 at h
  refine lv_iload_n hx hb dX6_average_0 rfl (lv_at hl 1 rfl) ?_
  obtain ⟨q1, e2, h⟩ := zb_some h
  refine z_xcallv hS (vx_runS (As := [.int x1]) (rest := []) ⟨hx, hb, hml, hown, hts⟩ (m_X6_checkFeature l hlt (M := M) hL N e2 H.size) (va_cwS 1 hts gX6_average_X6_checkFeature rfl rfl rfl (by decide +kernel) ⟨Nat.le_of_ble_eq_true rfl, Nat.le_of_ble_eq_true rfl⟩) (z_preS hK hE hW hS [.int x1]) rfl rfl hl.1 rfl (lv_room (Nat.le_of_ble_eq_true rfl)) dX6_average_1 ⟨Nat.le_of_ble_eq_true rfl, Nat.le_of_ble_eq_true rfl⟩) (fun k hk H locs q9 ce hW hS hce hcv hcl => by subst hk; have h := zx_l h; exact z_xout hex hlocks (Option.some.inj h).symm rfl hW hS hce hcv hcl (Nat.le_of_ble_eq_true rfl) (Nat.le_of_ble_eq_true rfl)) (fun r3 hk H locs hW hS => ?_)
  subst hk
  have h := zx_r h
  refine lv_aload_n hx hb dX6_average_4 rfl (lv_at hl 0 rfl) ?_
  obtain ⟨g4, h⟩ := zg_some h
  obtain ⟨b5, e6, h⟩ := zb_some h
  refine z_get (own := RX6) (C := RX6) (T := TX6) (N := 7) (ci := 6) hx hb hts hinX6 hown hK hL hW 2 (zK_of g4) rfl (by decide) (by decide) rfl (hts (.fieldLink RX6 22 "ArcLight" "weights" "LArcLight$Weights;") (by decide +kernel)) (v := .ref (ad b5)) (zhvR e6 rfl) dX6_average_5 ?_
  refine lv_iload_n hx hb dX6_average_8 rfl (lv_at hl 1 rfl) ?_
  obtain ⟨q7, e8, h⟩ := zb_some h
  obtain ⟨g9, h⟩ := zg_some h
  refine z_calld hS (va_runV (As := [.int x1]) (rest := []) ⟨hx, hb, hml, hown, hts⟩ (m_X5_averageOf l hL N e8 H.size) (cwV 1 hts gX6_average_X5_averageOf rfl rfl rfl (by decide +kernel) ⟨Nat.le_of_ble_eq_true rfl, Nat.le_of_ble_eq_true rfl⟩) (z_preV (q := (RX5, TX5, 8)) hK hL hE hW hS (zK_of g9) (by decide) rfl [.int x1]) rfl rfl hl.1 rfl (lv_room (Nat.le_of_ble_eq_true rfl)) dX6_average_9 ⟨Nat.le_of_ble_eq_true rfl, Nat.le_of_ble_eq_true rfl⟩) (fun H locs hW hS => ?_)
  exact z_xdret hx hb hr hlocks hW hS (Option.some.inj h) rfl dX6_average_12 (Nat.le_of_ble_eq_true rfl) (Nat.le_of_ble_eq_true rfl)
def f_X6_average (N : Nat) (K len : Nat → Nat) (a0 : Nat) (a1 : Int32) (M : ZM) : Option (Nat ⊕ UInt64) := f_X6_average_0 N K len a0 a1 M
set_option maxRecDepth 100000 in
set_option maxHeartbeats 4000000 in
theorem m_X6_average (l : Launch) (hlt : l.stackTraces = false) {D : va_G} {cy : Nat → ClassId} {ad : Nat → Nat} {L : List Nat} {K len : Nat → Nat} (hL : zSh ad L K) (N : Nat) {a0 : Nat} {a1 : Int32} {M : ZM} {o : Nat ⊕ UInt64} (h : f_X6_average N K len a0 a1 M = some o) (sz : Nat) : vx_Met l yX6_average wsX6_average ({ frames := 7, cells := 1, slots := 6, locals := 110 } : Room) (zPre D cy ad L K len sz [.ref (ad a0), .int a1] M) (zY D cy ad L K len zvD o M sz) (zX D cy ad L K len o M sz) 1 6 (zA ad L sz) :=
  z_xentry hlt (Qf := fun sz => zY D cy ad L K len zvD o M sz) (Xf := fun sz => zX D cy ad L K len o M sz) (av := [.ref (ad a0), .int a1]) (by decide) rfl rfl hL (Nat.le_of_ble_eq_true rfl) (fun p e s m args below meth c C0 H locs ls hW hS hl => t_X6_average_0 C0 N h hW hS (lv_sub hl [0, 1] rfl))

/-! marks (by program: wip/p26/gen/geny.py). -/
noncomputable def f_L_marks_548 (N : Nat) (s0 : Int32) (T : yT) : Option (Int32 × yT) :=
zg (zbo s0) (
some (s0, T))
set_option maxRecDepth 100000 in
set_option maxHeartbeats 8000000 in
theorem t_L_marks_548 {p : Program} {l : Launch} {e : Env} {s : State} {m : MethodId} {args : Array Value} {below : List Frame} {meth : Method} {c : Code} {D : va_G} {cy : Nat → ClassId} {x0 lo : Nat} (C0 : yCx p l s m c meth args cL_marks 16 wsM_marks RL (some .boolean) D cy lo) (N : Nat) (hN : 10000000 ≤ N) {c0 : Nat} {s0 : Int32} {T : yT} {r : Int32} {Tr : yT} (hc : c0 + 0 ≤ 4436) (h : f_L_marks_548 N s0 T = some (r, Tr)) {H : Heap} {locs : List Loc} {ls : Array Slot} (hW : yWd D cy x0 lo T H) (hS : va_S (yA lo) s.heap H locs) (hl : lv_has ls 16 []) : W p l e (headSpec wsM_marks ({ frames := 19, cells := 4436, slots := 35488, locals := 494 } : Room)).room s m args below meth c H locs (c0) (8 * (c0)) (MQ below (yQi D cy x0 lo r Tr) args s 4436 35488 (yA lo)) (F0 m 548 ls [.int s0]) := by
  obtain ⟨hx, hb, hr, hml, hown, hts, hlocks, hK, hE, hlo, hlt⟩ := id C0
  unfold f_L_marks_548 at h
  obtain ⟨g1, h⟩ := zg_some h
  exact y_zret hx hb hr hlocks hW hS g1 (congrArg Prod.fst (Option.some.inj h)) (congrArg Prod.snd (Option.some.inj h)) dL_marks_548 (by omega) (by omega)
noncomputable def f_L_marks_547 (N : Nat) (T : yT) : Option (Int32 × yT) :=
f_L_marks_548 N (0 : Int32) T
set_option maxRecDepth 100000 in
set_option maxHeartbeats 8000000 in
theorem t_L_marks_547 {p : Program} {l : Launch} {e : Env} {s : State} {m : MethodId} {args : Array Value} {below : List Frame} {meth : Method} {c : Code} {D : va_G} {cy : Nat → ClassId} {x0 lo : Nat} (C0 : yCx p l s m c meth args cL_marks 16 wsM_marks RL (some .boolean) D cy lo) (N : Nat) (hN : 10000000 ≤ N) {c0 : Nat} {T : yT} {r : Int32} {Tr : yT} (hc : c0 + 0 ≤ 4436) (h : f_L_marks_547 N T = some (r, Tr)) {H : Heap} {locs : List Loc} {ls : Array Slot} (hW : yWd D cy x0 lo T H) (hS : va_S (yA lo) s.heap H locs) (hl : lv_has ls 16 []) : W p l e (headSpec wsM_marks ({ frames := 19, cells := 4436, slots := 35488, locals := 494 } : Room)).room s m args below meth c H locs (c0) (8 * (c0)) (MQ below (yQi D cy x0 lo r Tr) args s 4436 35488 (yA lo)) (F0 m 547 ls []) := by
  obtain ⟨hx, hb, hr, hml, hown, hts, hlocks, hK, hE, hlo, hlt⟩ := id C0
  unfold f_L_marks_547 at h
  refine lv_iconst (v := 0) hx hb dL_marks_547 (by decide) ?_
  exact t_L_marks_548 C0 N hN (c0 := c0)  (by omega) h hW hS (lv_sub hl [] rfl)
noncomputable def f_L_marks_543 (N : Nat) (T : yT) : Option (Int32 × yT) :=
f_L_marks_548 N (1 : Int32) T
set_option maxRecDepth 100000 in
set_option maxHeartbeats 8000000 in
theorem t_L_marks_543 {p : Program} {l : Launch} {e : Env} {s : State} {m : MethodId} {args : Array Value} {below : List Frame} {meth : Method} {c : Code} {D : va_G} {cy : Nat → ClassId} {x0 lo : Nat} (C0 : yCx p l s m c meth args cL_marks 16 wsM_marks RL (some .boolean) D cy lo) (N : Nat) (hN : 10000000 ≤ N) {c0 : Nat} {T : yT} {r : Int32} {Tr : yT} (hc : c0 + 0 ≤ 4436) (h : f_L_marks_543 N T = some (r, Tr)) {H : Heap} {locs : List Loc} {ls : Array Slot} (hW : yWd D cy x0 lo T H) (hS : va_S (yA lo) s.heap H locs) (hl : lv_has ls 16 []) : W p l e (headSpec wsM_marks ({ frames := 19, cells := 4436, slots := 35488, locals := 494 } : Room)).room s m args below meth c H locs (c0) (8 * (c0)) (MQ below (yQi D cy x0 lo r Tr) args s 4436 35488 (yA lo)) (F0 m 543 ls []) := by
  obtain ⟨hx, hb, hr, hml, hown, hts, hlocks, hK, hE, hlo, hlt⟩ := id C0
  unfold f_L_marks_543 at h
  refine lv_iconst (v := 1) hx hb dL_marks_543 (by decide) ?_
  refine lv_goto (tgt := 548) hx hb dL_marks_544 (by decide) ?_
  exact t_L_marks_548 C0 N hN (c0 := c0)  (by omega) h hW hS (lv_sub hl [] rfl)
noncomputable def f_L_marks_498 (N : Nat) (w1 : Int32) (w6 : Int32) (w8 : Int32) (w9 : Int32) (w10 : Int32) (w12 : Int32) (w13 : Int64) (s0 : Int32) (T : yT) : Option (Int32 × yT) :=
(if s0 = 0 then
f_L_marks_547 N T
else
(f_L_some N (w1 >>> ((11 : Int32) &&& 31)) (3 : Int32)).bind fun q2 => (
(if q2 = 0 then
f_L_marks_543 N T
else
zbp (y_X6_mark T w6 w9 w8 w10) fun q5 T7 => (
zx q5 (fun _ => none) fun r8 => (
(if r8 = w12 then
zbp (f_L_all N T7) fun q10 T12 => (
(if q10 = w13 then
f_L_marks_543 N T12
else
f_L_marks_547 N T12))
else
f_L_marks_547 N T7))))))
set_option maxRecDepth 100000 in
set_option maxHeartbeats 8000000 in
theorem t_L_marks_498 {p : Program} {l : Launch} {e : Env} {s : State} {m : MethodId} {args : Array Value} {below : List Frame} {meth : Method} {c : Code} {D : va_G} {cy : Nat → ClassId} {x0 lo : Nat} (C0 : yCx p l s m c meth args cL_marks 16 wsM_marks RL (some .boolean) D cy lo) (N : Nat) (hN : 10000000 ≤ N) {c0 : Nat} {w1 : Int32} {w6 : Int32} {w8 : Int32} {w9 : Int32} {w10 : Int32} {w12 : Int32} {w13 : Int64} {s0 : Int32} {T : yT} {r : Int32} {Tr : yT} (hc : c0 + 1105 ≤ 4436) (h : f_L_marks_498 N w1 w6 w8 w9 w10 w12 w13 s0 T = some (r, Tr)) {H : Heap} {locs : List Loc} {ls : Array Slot} (hW : yWd D cy x0 lo T H) (hS : va_S (yA lo) s.heap H locs) (hl : lv_has ls 16 [(0, .ref x0), (1, .int w1), (6, .int w6), (8, .int w8), (9, .int w9), (10, .int w10), (12, .int w12), (13, .long w13)]) : W p l e (headSpec wsM_marks ({ frames := 19, cells := 4436, slots := 35488, locals := 494 } : Room)).room s m args below meth c H locs (c0) (8 * (c0)) (MQ below (yQi D cy x0 lo r Tr) args s 4436 35488 (yA lo)) (F0 m 498 ls [.int s0]) := by
  obtain ⟨hx, hb, hr, hml, hown, hts, hlocks, hK, hE, hlo, hlt⟩ := id C0
  unfold f_L_marks_498 at h
  refine lv_istore (lv' := [(15, .int s0), (0, .ref x0), (1, .int w1), (6, .int w6), (8, .int w8), (9, .int w9), (10, .int w10), (12, .int w12), (13, .long w13)]) hx hb dL_marks_498 hl (by decide) rfl (fun ls hl => ?_)
  refine lv_iload hx hb dL_marks_500 (lv_at hl 0 rfl) ?_
  refine lv_if_eq (tgt := 547) hx hb dL_marks_502 (by decide) (fun c1 => ?_) (fun c1 => ?_)
  · have h := zip c1 h
    exact t_L_marks_547 C0 N hN (c0 := c0)  (by omega) h hW hS (lv_sub hl [] rfl)
  · have h := zin c1 h
    refine lv_iload_n hx hb dL_marks_505 rfl (lv_at hl 2 rfl) ?_
    refine lv_bipush (v := 11) hx hb dL_marks_506 (by decide) ?_
    refine lv_ishr hx hb dL_marks_508 ?_
    refine lv_iconst (v := 3) hx hb dL_marks_509 (by decide) ?_
    obtain ⟨q2, e3, h⟩ := zb_some h
    refine y_calli hS (va_runS (As := [.int (w1 >>> ((11 : Int32) &&& 31)), .int (3 : Int32)]) (rest := []) ⟨hx, hb, hml, hown, hts⟩ (m_L_some l hlt N hN (T := T) e3) (va_cwS 2 hts (gM_L_some wsM_up) rfl rfl rfl (by decide +kernel) ⟨Nat.le_of_ble_eq_true rfl, Nat.le_of_ble_eq_true rfl⟩) (y_preS hK hE hlo hW hS [.int (w1 >>> ((11 : Int32) &&& 31)), .int (3 : Int32)]) rfl rfl hl.1 rfl (lv_room (Nat.le_of_ble_eq_true rfl)) dL_marks_510 ⟨by show c0 + 0 ≤ 4436; omega, by show 8 * (c0) + 0 ≤ 35488; omega⟩) (fun H locs hW hS => ?_)
    refine lv_if_eq (tgt := 543) hx hb dL_marks_513 (by decide) (fun c4 => ?_) (fun c4 => ?_)
    · have h := zip c4 h
      exact t_L_marks_543 C0 N hN (c0 := c0)  (by omega) h hW hS (lv_sub hl [] rfl)
    · have h := zin c4 h
      refine lv_aload_n hx hb dL_marks_516 rfl (lv_at hl 1 rfl) ?_
      refine lv_iload hx hb dL_marks_517 (lv_at hl 3 rfl) ?_
      refine lv_iload hx hb dL_marks_519 (lv_at hl 5 rfl) ?_
      refine lv_iload hx hb dL_marks_521 (lv_at hl 4 rfl) ?_
      refine lv_iload hx hb dL_marks_523 (lv_at hl 6 rfl) ?_
      obtain ⟨q5, T7, e6, h⟩ := zbp_some h
      refine y_xcalli hS (vx_runV (As := [.int w6, .int w9, .int w8, .int w10]) (rest := []) ⟨hx, hb, hml, hown, hts⟩ (n_X6_mark l hlt N hN e6) (cwV 4 hts (gM_X6_mark wsM_up) rfl rfl rfl (by decide +kernel) ⟨Nat.le_of_ble_eq_true rfl, Nat.le_of_ble_eq_true rfl⟩) (y_preV hK hE hlo hW hS [.int w6, .int w9, .int w8, .int w10]) rfl rfl hl.1 rfl (lv_room (Nat.le_of_ble_eq_true rfl)) dL_marks_525 ⟨by show c0 + 4 ≤ 4436; omega, by show 8 * (c0) + 24 ≤ 35488; omega⟩) (fun k hk H locs q9 ce hW hS hce hcv hcl => by subst hk; cases (show (none : Option (Int32 × yT)) = some (r, Tr) from zx_l h)) (fun r8 hk H locs hW hS => ?_)
      subst hk
      have h := zx_r h
      refine W.widen (k := c0 + 4) (n := 8 * (c0 + 4)) (by omega) (by omega) ?_
      refine lv_iload hx hb dL_marks_528 (lv_at hl 7 rfl) ?_
      refine lv_icmp_ne (tgt := 547) hx hb dL_marks_530 (by decide) (fun c9 => ?_) (fun c9 => ?_)
      · have h := zin c9 h
        exact t_L_marks_547 C0 N hN (c0 := c0 + 4)  (by omega) h hW hS (lv_sub hl [] rfl)
      · have h := zip c9 h
        refine lv_aload_n hx hb dL_marks_533 rfl (lv_at hl 1 rfl) ?_
        obtain ⟨q10, T12, e11, h⟩ := zbp_some h
        refine y_calll hS (va_runS (As := [.ref x0]) (rest := []) ⟨hx, hb, hml, hown, hts⟩ (m_L_all l hlt N hN e11) (va_cwS 1 hts (gM_L_all wsM_up) rfl rfl rfl (by decide +kernel) ⟨Nat.le_of_ble_eq_true rfl, Nat.le_of_ble_eq_true rfl⟩) (y_preS hK hE hlo hW hS [.ref x0]) rfl rfl hl.1 rfl (lv_room (Nat.le_of_ble_eq_true rfl)) dL_marks_534 ⟨by show c0 + 4 + 1101 ≤ 4436; omega, by show 8 * (c0 + 4) + 8808 ≤ 35488; omega⟩) (fun H locs hW hS => ?_)
        refine W.widen (k := c0 + 1105) (n := 8 * (c0 + 1105)) (by omega) (by omega) ?_
        refine lv_lload hx hb dL_marks_537 (lv_at hl 8 rfl) ?_
        refine z_lc_ne (tgt := 547) hx hb dL_marks_539 dL_marks_540 (by decide) (fun c13 => ?_) (fun c13 => ?_)
        · have h := zin c13 h
          exact t_L_marks_547 C0 N hN (c0 := c0 + 1105)  (by omega) h hW hS (lv_sub hl [] rfl)
        · have h := zip c13 h
          exact t_L_marks_543 C0 N hN (c0 := c0 + 1105)  (by omega) h hW hS (lv_sub hl [] rfl)
noncomputable def f_L_marks_497 (N : Nat) (w1 : Int32) (w6 : Int32) (w8 : Int32) (w9 : Int32) (w10 : Int32) (w12 : Int32) (w13 : Int64) (T : yT) : Option (Int32 × yT) :=
f_L_marks_498 N w1 w6 w8 w9 w10 w12 w13 (0 : Int32) T
set_option maxRecDepth 100000 in
set_option maxHeartbeats 8000000 in
theorem t_L_marks_497 {p : Program} {l : Launch} {e : Env} {s : State} {m : MethodId} {args : Array Value} {below : List Frame} {meth : Method} {c : Code} {D : va_G} {cy : Nat → ClassId} {x0 lo : Nat} (C0 : yCx p l s m c meth args cL_marks 16 wsM_marks RL (some .boolean) D cy lo) (N : Nat) (hN : 10000000 ≤ N) {c0 : Nat} {w1 : Int32} {w6 : Int32} {w8 : Int32} {w9 : Int32} {w10 : Int32} {w12 : Int32} {w13 : Int64} {T : yT} {r : Int32} {Tr : yT} (hc : c0 + 1105 ≤ 4436) (h : f_L_marks_497 N w1 w6 w8 w9 w10 w12 w13 T = some (r, Tr)) {H : Heap} {locs : List Loc} {ls : Array Slot} (hW : yWd D cy x0 lo T H) (hS : va_S (yA lo) s.heap H locs) (hl : lv_has ls 16 [(0, .ref x0), (1, .int w1), (6, .int w6), (8, .int w8), (9, .int w9), (10, .int w10), (12, .int w12), (13, .long w13)]) : W p l e (headSpec wsM_marks ({ frames := 19, cells := 4436, slots := 35488, locals := 494 } : Room)).room s m args below meth c H locs (c0) (8 * (c0)) (MQ below (yQi D cy x0 lo r Tr) args s 4436 35488 (yA lo)) (F0 m 497 ls []) := by
  obtain ⟨hx, hb, hr, hml, hown, hts, hlocks, hK, hE, hlo, hlt⟩ := id C0
  unfold f_L_marks_497 at h
  refine lv_iconst (v := 0) hx hb dL_marks_497 (by decide) ?_
  exact t_L_marks_498 C0 N hN (c0 := c0)  (by omega) h hW hS (lv_sub hl [0, 1, 2, 3, 4, 5, 6, 7] rfl)
noncomputable def f_L_marks_467 (N : Nat) (w1 : Int32) (w3 : Int64) (w6 : Int32) (w8 : Int32) (w9 : Int32) (w10 : Int32) (w12 : Int32) (w13 : Int64) (T : yT) : Option (Int32 × yT) :=
zbp (y_X6_mark T w6 w9 w8 w12) fun q1 T3 => (
zx q1 (fun _ => none) fun r4 => (
(if r4 = w10 then
zbp (f_L_all N T3) fun q6 T8 => (
(if q6 = w3 then
f_L_marks_498 N w1 w6 w8 w9 w10 w12 w13 (1 : Int32) T8
else
f_L_marks_497 N w1 w6 w8 w9 w10 w12 w13 T8))
else
f_L_marks_497 N w1 w6 w8 w9 w10 w12 w13 T3)))
set_option maxRecDepth 100000 in
set_option maxHeartbeats 8000000 in
theorem t_L_marks_467 {p : Program} {l : Launch} {e : Env} {s : State} {m : MethodId} {args : Array Value} {below : List Frame} {meth : Method} {c : Code} {D : va_G} {cy : Nat → ClassId} {x0 lo : Nat} (C0 : yCx p l s m c meth args cL_marks 16 wsM_marks RL (some .boolean) D cy lo) (N : Nat) (hN : 10000000 ≤ N) {c0 : Nat} {w1 : Int32} {w3 : Int64} {w6 : Int32} {w8 : Int32} {w9 : Int32} {w10 : Int32} {w12 : Int32} {w13 : Int64} {T : yT} {r : Int32} {Tr : yT} (hc : c0 + 2210 ≤ 4436) (h : f_L_marks_467 N w1 w3 w6 w8 w9 w10 w12 w13 T = some (r, Tr)) {H : Heap} {locs : List Loc} {ls : Array Slot} (hW : yWd D cy x0 lo T H) (hS : va_S (yA lo) s.heap H locs) (hl : lv_has ls 16 [(0, .ref x0), (1, .int w1), (3, .long w3), (6, .int w6), (8, .int w8), (9, .int w9), (10, .int w10), (12, .int w12), (13, .long w13)]) : W p l e (headSpec wsM_marks ({ frames := 19, cells := 4436, slots := 35488, locals := 494 } : Room)).room s m args below meth c H locs (c0) (8 * (c0)) (MQ below (yQi D cy x0 lo r Tr) args s 4436 35488 (yA lo)) (F0 m 467 ls []) := by
  obtain ⟨hx, hb, hr, hml, hown, hts, hlocks, hK, hE, hlo, hlt⟩ := id C0
  unfold f_L_marks_467 at h
  refine lv_aload_n hx hb dL_marks_467 rfl (lv_at hl 0 rfl) ?_
  refine lv_iload hx hb dL_marks_468 (lv_at hl 3 rfl) ?_
  refine lv_iload hx hb dL_marks_470 (lv_at hl 5 rfl) ?_
  refine lv_iload hx hb dL_marks_472 (lv_at hl 4 rfl) ?_
  refine lv_iload hx hb dL_marks_474 (lv_at hl 7 rfl) ?_
  obtain ⟨q1, T3, e2, h⟩ := zbp_some h
  refine y_xcalli hS (vx_runV (As := [.int w6, .int w9, .int w8, .int w12]) (rest := []) ⟨hx, hb, hml, hown, hts⟩ (n_X6_mark l hlt N hN e2) (cwV 4 hts (gM_X6_mark wsM_up) rfl rfl rfl (by decide +kernel) ⟨Nat.le_of_ble_eq_true rfl, Nat.le_of_ble_eq_true rfl⟩) (y_preV hK hE hlo hW hS [.int w6, .int w9, .int w8, .int w12]) rfl rfl hl.1 rfl (lv_room (Nat.le_of_ble_eq_true rfl)) dL_marks_476 ⟨by show c0 + 4 ≤ 4436; omega, by show 8 * (c0) + 24 ≤ 35488; omega⟩) (fun k hk H locs q9 ce hW hS hce hcv hcl => by subst hk; cases (show (none : Option (Int32 × yT)) = some (r, Tr) from zx_l h)) (fun r4 hk H locs hW hS => ?_)
  subst hk
  have h := zx_r h
  refine W.widen (k := c0 + 4) (n := 8 * (c0 + 4)) (by omega) (by omega) ?_
  refine lv_iload hx hb dL_marks_479 (lv_at hl 6 rfl) ?_
  refine lv_icmp_ne (tgt := 497) hx hb dL_marks_481 (by decide) (fun c5 => ?_) (fun c5 => ?_)
  · have h := zin c5 h
    exact t_L_marks_497 C0 N hN (c0 := c0 + 4)  (by omega) h hW hS (lv_sub hl [0, 1, 3, 4, 5, 6, 7, 8] rfl)
  · have h := zip c5 h
    refine lv_aload_n hx hb dL_marks_484 rfl (lv_at hl 0 rfl) ?_
    obtain ⟨q6, T8, e7, h⟩ := zbp_some h
    refine y_calll hS (va_runS (As := [.ref x0]) (rest := []) ⟨hx, hb, hml, hown, hts⟩ (m_L_all l hlt N hN e7) (va_cwS 1 hts (gM_L_all wsM_up) rfl rfl rfl (by decide +kernel) ⟨Nat.le_of_ble_eq_true rfl, Nat.le_of_ble_eq_true rfl⟩) (y_preS hK hE hlo hW hS [.ref x0]) rfl rfl hl.1 rfl (lv_room (Nat.le_of_ble_eq_true rfl)) dL_marks_485 ⟨by show c0 + 4 + 1101 ≤ 4436; omega, by show 8 * (c0 + 4) + 8808 ≤ 35488; omega⟩) (fun H locs hW hS => ?_)
    refine W.widen (k := c0 + 1105) (n := 8 * (c0 + 1105)) (by omega) (by omega) ?_
    refine lv_lload_n hx hb dL_marks_488 rfl (lv_at hl 2 rfl) ?_
    refine z_lc_ne (tgt := 497) hx hb dL_marks_489 dL_marks_490 (by decide) (fun c9 => ?_) (fun c9 => ?_)
    · have h := zin c9 h
      exact t_L_marks_497 C0 N hN (c0 := c0 + 1105)  (by omega) h hW hS (lv_sub hl [0, 1, 3, 4, 5, 6, 7, 8] rfl)
    · have h := zip c9 h
      refine lv_iconst (v := 1) hx hb dL_marks_493 (by decide) ?_
      refine lv_goto (tgt := 498) hx hb dL_marks_494 (by decide) ?_
      exact t_L_marks_498 C0 N hN (c0 := c0 + 1105)  (by omega) h hW hS (lv_sub hl [0, 1, 3, 4, 5, 6, 7, 8] rfl)
noncomputable def f_L_marks_437 (N : Nat) (w1 : Int32) (w3 : Int64) (w6 : Int32) (w8 : Int32) (w9 : Int32) (w10 : Int32) (w12 : Int32) (w13 : Int64) (T : yT) : Option (Int32 × yT) :=
(if w10 = (2 : Int32) then
zbp (y_X6_trees T w6 (1 : Int32)) fun q2 T4 => (
zx q2 (fun _ => none) fun r5 => (
(if r5 = 0 then
f_L_marks_467 N w1 w3 w6 w8 w9 w10 w12 w13 T4
else
zbp (y_X6_head T4 w6 (1 : Int32) w8) fun q7 T9 => (
zx q7 (fun _ => none) fun r10 => (
(if r10 = w9 then
f_L_marks_497 N w1 w6 w8 w9 w10 w12 w13 T9
else
f_L_marks_467 N w1 w3 w6 w8 w9 w10 w12 w13 T9))))))
else
f_L_marks_467 N w1 w3 w6 w8 w9 w10 w12 w13 T)
set_option maxRecDepth 100000 in
set_option maxHeartbeats 8000000 in
theorem t_L_marks_437 {p : Program} {l : Launch} {e : Env} {s : State} {m : MethodId} {args : Array Value} {below : List Frame} {meth : Method} {c : Code} {D : va_G} {cy : Nat → ClassId} {x0 lo : Nat} (C0 : yCx p l s m c meth args cL_marks 16 wsM_marks RL (some .boolean) D cy lo) (N : Nat) (hN : 10000000 ≤ N) {c0 : Nat} {w1 : Int32} {w3 : Int64} {w6 : Int32} {w8 : Int32} {w9 : Int32} {w10 : Int32} {w12 : Int32} {w13 : Int64} {T : yT} {r : Int32} {Tr : yT} (hc : c0 + 2214 ≤ 4436) (h : f_L_marks_437 N w1 w3 w6 w8 w9 w10 w12 w13 T = some (r, Tr)) {H : Heap} {locs : List Loc} {ls : Array Slot} (hW : yWd D cy x0 lo T H) (hS : va_S (yA lo) s.heap H locs) (hl : lv_has ls 16 [(0, .ref x0), (1, .int w1), (3, .long w3), (6, .int w6), (8, .int w8), (9, .int w9), (10, .int w10), (12, .int w12), (13, .long w13)]) : W p l e (headSpec wsM_marks ({ frames := 19, cells := 4436, slots := 35488, locals := 494 } : Room)).room s m args below meth c H locs (c0) (8 * (c0)) (MQ below (yQi D cy x0 lo r Tr) args s 4436 35488 (yA lo)) (F0 m 437 ls []) := by
  obtain ⟨hx, hb, hr, hml, hown, hts, hlocks, hK, hE, hlo, hlt⟩ := id C0
  unfold f_L_marks_437 at h
  refine lv_iload hx hb dL_marks_437 (lv_at hl 6 rfl) ?_
  refine lv_iconst (v := 2) hx hb dL_marks_439 (by decide) ?_
  refine lv_icmp_ne (tgt := 467) hx hb dL_marks_440 (by decide) (fun c1 => ?_) (fun c1 => ?_)
  · have h := zin c1 h
    exact t_L_marks_467 C0 N hN (c0 := c0)  (by omega) h hW hS (lv_sub hl [0, 1, 2, 3, 4, 5, 6, 7, 8] rfl)
  · have h := zip c1 h
    refine lv_aload_n hx hb dL_marks_443 rfl (lv_at hl 0 rfl) ?_
    refine lv_iload hx hb dL_marks_444 (lv_at hl 3 rfl) ?_
    refine lv_iconst (v := 1) hx hb dL_marks_446 (by decide) ?_
    obtain ⟨q2, T4, e3, h⟩ := zbp_some h
    refine y_xcalli hS (vx_runV (As := [.int w6, .int (1 : Int32)]) (rest := []) ⟨hx, hb, hml, hown, hts⟩ (n_X6_trees l hlt N hN e3) (cwV 2 hts (gM_X6_trees wsM_up) rfl rfl rfl (by decide +kernel) ⟨Nat.le_of_ble_eq_true rfl, Nat.le_of_ble_eq_true rfl⟩) (y_preV hK hE hlo hW hS [.int w6, .int (1 : Int32)]) rfl rfl hl.1 rfl (lv_room (Nat.le_of_ble_eq_true rfl)) dL_marks_447 ⟨by show c0 + 1 ≤ 4436; omega, by show 8 * (c0) + 6 ≤ 35488; omega⟩) (fun k hk H locs q9 ce hW hS hce hcv hcl => by subst hk; cases (show (none : Option (Int32 × yT)) = some (r, Tr) from zx_l h)) (fun r5 hk H locs hW hS => ?_)
    subst hk
    have h := zx_r h
    refine W.widen (k := c0 + 1) (n := 8 * (c0 + 1)) (by omega) (by omega) ?_
    refine lv_if_eq (tgt := 467) hx hb dL_marks_450 (by decide) (fun c6 => ?_) (fun c6 => ?_)
    · have h := zip c6 h
      exact t_L_marks_467 C0 N hN (c0 := c0 + 1)  (by omega) h hW hS (lv_sub hl [0, 1, 2, 3, 4, 5, 6, 7, 8] rfl)
    · have h := zin c6 h
      refine lv_aload_n hx hb dL_marks_453 rfl (lv_at hl 0 rfl) ?_
      refine lv_iload hx hb dL_marks_454 (lv_at hl 3 rfl) ?_
      refine lv_iconst (v := 1) hx hb dL_marks_456 (by decide) ?_
      refine lv_iload hx hb dL_marks_457 (lv_at hl 4 rfl) ?_
      obtain ⟨q7, T9, e8, h⟩ := zbp_some h
      refine y_xcalli hS (vx_runV (As := [.int w6, .int (1 : Int32), .int w8]) (rest := []) ⟨hx, hb, hml, hown, hts⟩ (n_X6_head l hlt N hN e8) (cwV 3 hts (gM_X6_head wsM_up) rfl rfl rfl (by decide +kernel) ⟨Nat.le_of_ble_eq_true rfl, Nat.le_of_ble_eq_true rfl⟩) (y_preV hK hE hlo hW hS [.int w6, .int (1 : Int32), .int w8]) rfl rfl hl.1 rfl (lv_room (Nat.le_of_ble_eq_true rfl)) dL_marks_459 ⟨by show c0 + 1 + 3 ≤ 4436; omega, by show 8 * (c0 + 1) + 18 ≤ 35488; omega⟩) (fun k hk H locs q9 ce hW hS hce hcv hcl => by subst hk; cases (show (none : Option (Int32 × yT)) = some (r, Tr) from zx_l h)) (fun r10 hk H locs hW hS => ?_)
      subst hk
      have h := zx_r h
      refine W.widen (k := c0 + 4) (n := 8 * (c0 + 4)) (by omega) (by omega) ?_
      refine lv_iload hx hb dL_marks_462 (lv_at hl 5 rfl) ?_
      refine lv_icmp_eq (tgt := 497) hx hb dL_marks_464 (by decide) (fun c11 => ?_) (fun c11 => ?_)
      · have h := zip c11 h
        exact t_L_marks_497 C0 N hN (c0 := c0 + 4)  (by omega) h hW hS (lv_sub hl [0, 1, 3, 4, 5, 6, 7, 8] rfl)
      · have h := zin c11 h
        exact t_L_marks_467 C0 N hN (c0 := c0 + 4)  (by omega) h hW hS (lv_sub hl [0, 1, 2, 3, 4, 5, 6, 7, 8] rfl)
noncomputable def f_L_marks_372 (N : Nat) (s0 : Int32) (T : yT) : Option (Int32 × yT) :=
zg (zbo s0) (
some (s0, T))
set_option maxRecDepth 100000 in
set_option maxHeartbeats 8000000 in
theorem t_L_marks_372 {p : Program} {l : Launch} {e : Env} {s : State} {m : MethodId} {args : Array Value} {below : List Frame} {meth : Method} {c : Code} {D : va_G} {cy : Nat → ClassId} {x0 lo : Nat} (C0 : yCx p l s m c meth args cL_marks 16 wsM_marks RL (some .boolean) D cy lo) (N : Nat) (hN : 10000000 ≤ N) {c0 : Nat} {s0 : Int32} {T : yT} {r : Int32} {Tr : yT} (hc : c0 + 0 ≤ 4436) (h : f_L_marks_372 N s0 T = some (r, Tr)) {H : Heap} {locs : List Loc} {ls : Array Slot} (hW : yWd D cy x0 lo T H) (hS : va_S (yA lo) s.heap H locs) (hl : lv_has ls 16 []) : W p l e (headSpec wsM_marks ({ frames := 19, cells := 4436, slots := 35488, locals := 494 } : Room)).room s m args below meth c H locs (c0) (8 * (c0)) (MQ below (yQi D cy x0 lo r Tr) args s 4436 35488 (yA lo)) (F0 m 372 ls [.int s0]) := by
  obtain ⟨hx, hb, hr, hml, hown, hts, hlocks, hK, hE, hlo, hlt⟩ := id C0
  unfold f_L_marks_372 at h
  obtain ⟨g1, h⟩ := zg_some h
  exact y_zret hx hb hr hlocks hW hS g1 (congrArg Prod.fst (Option.some.inj h)) (congrArg Prod.snd (Option.some.inj h)) dL_marks_372 (by omega) (by omega)
noncomputable def f_L_marks_371 (N : Nat) (T : yT) : Option (Int32 × yT) :=
f_L_marks_372 N (0 : Int32) T
set_option maxRecDepth 100000 in
set_option maxHeartbeats 8000000 in
theorem t_L_marks_371 {p : Program} {l : Launch} {e : Env} {s : State} {m : MethodId} {args : Array Value} {below : List Frame} {meth : Method} {c : Code} {D : va_G} {cy : Nat → ClassId} {x0 lo : Nat} (C0 : yCx p l s m c meth args cL_marks 16 wsM_marks RL (some .boolean) D cy lo) (N : Nat) (hN : 10000000 ≤ N) {c0 : Nat} {T : yT} {r : Int32} {Tr : yT} (hc : c0 + 0 ≤ 4436) (h : f_L_marks_371 N T = some (r, Tr)) {H : Heap} {locs : List Loc} {ls : Array Slot} (hW : yWd D cy x0 lo T H) (hS : va_S (yA lo) s.heap H locs) (hl : lv_has ls 16 []) : W p l e (headSpec wsM_marks ({ frames := 19, cells := 4436, slots := 35488, locals := 494 } : Room)).room s m args below meth c H locs (c0) (8 * (c0)) (MQ below (yQi D cy x0 lo r Tr) args s 4436 35488 (yA lo)) (F0 m 371 ls []) := by
  obtain ⟨hx, hb, hr, hml, hown, hts, hlocks, hK, hE, hlo, hlt⟩ := id C0
  unfold f_L_marks_371 at h
  refine lv_iconst (v := 0) hx hb dL_marks_371 (by decide) ?_
  exact t_L_marks_372 C0 N hN (c0 := c0)  (by omega) h hW hS (lv_sub hl [] rfl)
noncomputable def f_L_marks_343 (N : Nat) (s0 : Int32) (T : yT) : Option (Int32 × yT) :=
zg (zbo s0) (
some (s0, T))
set_option maxRecDepth 100000 in
set_option maxHeartbeats 8000000 in
theorem t_L_marks_343 {p : Program} {l : Launch} {e : Env} {s : State} {m : MethodId} {args : Array Value} {below : List Frame} {meth : Method} {c : Code} {D : va_G} {cy : Nat → ClassId} {x0 lo : Nat} (C0 : yCx p l s m c meth args cL_marks 16 wsM_marks RL (some .boolean) D cy lo) (N : Nat) (hN : 10000000 ≤ N) {c0 : Nat} {s0 : Int32} {T : yT} {r : Int32} {Tr : yT} (hc : c0 + 0 ≤ 4436) (h : f_L_marks_343 N s0 T = some (r, Tr)) {H : Heap} {locs : List Loc} {ls : Array Slot} (hW : yWd D cy x0 lo T H) (hS : va_S (yA lo) s.heap H locs) (hl : lv_has ls 16 []) : W p l e (headSpec wsM_marks ({ frames := 19, cells := 4436, slots := 35488, locals := 494 } : Room)).room s m args below meth c H locs (c0) (8 * (c0)) (MQ below (yQi D cy x0 lo r Tr) args s 4436 35488 (yA lo)) (F0 m 343 ls [.int s0]) := by
  obtain ⟨hx, hb, hr, hml, hown, hts, hlocks, hK, hE, hlo, hlt⟩ := id C0
  unfold f_L_marks_343 at h
  obtain ⟨g1, h⟩ := zg_some h
  exact y_zret hx hb hr hlocks hW hS g1 (congrArg Prod.fst (Option.some.inj h)) (congrArg Prod.snd (Option.some.inj h)) dL_marks_343 (by omega) (by omega)
noncomputable def f_L_marks_342 (N : Nat) (T : yT) : Option (Int32 × yT) :=
f_L_marks_343 N (0 : Int32) T
set_option maxRecDepth 100000 in
set_option maxHeartbeats 8000000 in
theorem t_L_marks_342 {p : Program} {l : Launch} {e : Env} {s : State} {m : MethodId} {args : Array Value} {below : List Frame} {meth : Method} {c : Code} {D : va_G} {cy : Nat → ClassId} {x0 lo : Nat} (C0 : yCx p l s m c meth args cL_marks 16 wsM_marks RL (some .boolean) D cy lo) (N : Nat) (hN : 10000000 ≤ N) {c0 : Nat} {T : yT} {r : Int32} {Tr : yT} (hc : c0 + 0 ≤ 4436) (h : f_L_marks_342 N T = some (r, Tr)) {H : Heap} {locs : List Loc} {ls : Array Slot} (hW : yWd D cy x0 lo T H) (hS : va_S (yA lo) s.heap H locs) (hl : lv_has ls 16 []) : W p l e (headSpec wsM_marks ({ frames := 19, cells := 4436, slots := 35488, locals := 494 } : Room)).room s m args below meth c H locs (c0) (8 * (c0)) (MQ below (yQi D cy x0 lo r Tr) args s 4436 35488 (yA lo)) (F0 m 342 ls []) := by
  obtain ⟨hx, hb, hr, hml, hown, hts, hlocks, hK, hE, hlo, hlt⟩ := id C0
  unfold f_L_marks_342 at h
  refine lv_iconst (v := 0) hx hb dL_marks_342 (by decide) ?_
  exact t_L_marks_343 C0 N hN (c0 := c0)  (by omega) h hW hS (lv_sub hl [] rfl)
noncomputable def f_L_marks_338 (N : Nat) (T : yT) : Option (Int32 × yT) :=
f_L_marks_343 N (1 : Int32) T
set_option maxRecDepth 100000 in
set_option maxHeartbeats 8000000 in
theorem t_L_marks_338 {p : Program} {l : Launch} {e : Env} {s : State} {m : MethodId} {args : Array Value} {below : List Frame} {meth : Method} {c : Code} {D : va_G} {cy : Nat → ClassId} {x0 lo : Nat} (C0 : yCx p l s m c meth args cL_marks 16 wsM_marks RL (some .boolean) D cy lo) (N : Nat) (hN : 10000000 ≤ N) {c0 : Nat} {T : yT} {r : Int32} {Tr : yT} (hc : c0 + 0 ≤ 4436) (h : f_L_marks_338 N T = some (r, Tr)) {H : Heap} {locs : List Loc} {ls : Array Slot} (hW : yWd D cy x0 lo T H) (hS : va_S (yA lo) s.heap H locs) (hl : lv_has ls 16 []) : W p l e (headSpec wsM_marks ({ frames := 19, cells := 4436, slots := 35488, locals := 494 } : Room)).room s m args below meth c H locs (c0) (8 * (c0)) (MQ below (yQi D cy x0 lo r Tr) args s 4436 35488 (yA lo)) (F0 m 338 ls []) := by
  obtain ⟨hx, hb, hr, hml, hown, hts, hlocks, hK, hE, hlo, hlt⟩ := id C0
  unfold f_L_marks_338 at h
  refine lv_iconst (v := 1) hx hb dL_marks_338 (by decide) ?_
  refine lv_goto (tgt := 343) hx hb dL_marks_339 (by decide) ?_
  exact t_L_marks_343 C0 N hN (c0 := c0)  (by omega) h hW hS (lv_sub hl [] rfl)
noncomputable def f_L_marks_256 (N : Nat) (w3 : Int64) (w6 : Int32) (w8 : Int32) (w9 : Int32) (w11 : Int32) (s0 : Int32) (s1 : Int32) (T : yT) : Option (Int32 × yT) :=
(if s1 = s0 then
zbp (f_L_all N T) fun q2 T4 => (
(if q2 = w3 then
(if w11 = 0 then
(if w9 = w8 then
zbp (f_L_call N T4 (4 : Int32) w6 w9 w8 (0 : Int32)) fun q8 T10 => (
(if q8 = (-8002 : Int32) then
f_L_marks_338 N T10
else
f_L_marks_342 N T10))
else
f_L_marks_338 N T4)
else
zbp (f_L_call N T4 (4 : Int32) w6 w9 w8 (0 : Int32)) fun q12 T14 => (
(if q12 = (-8001 : Int32) then
zbp (f_L_call N T14 (8 : Int32) w6 w9 w8 (0 : Int32)) fun q16 T18 => (
(if q16 = (-8001 : Int32) then
f_L_marks_338 N T18
else
f_L_marks_342 N T18))
else
f_L_marks_342 N T14)))
else
f_L_marks_342 N T4))
else
f_L_marks_342 N T)
set_option maxRecDepth 100000 in
set_option maxHeartbeats 8000000 in
theorem t_L_marks_256 {p : Program} {l : Launch} {e : Env} {s : State} {m : MethodId} {args : Array Value} {below : List Frame} {meth : Method} {c : Code} {D : va_G} {cy : Nat → ClassId} {x0 lo : Nat} (C0 : yCx p l s m c meth args cL_marks 16 wsM_marks RL (some .boolean) D cy lo) (N : Nat) (hN : 10000000 ≤ N) {c0 : Nat} {w3 : Int64} {w6 : Int32} {w8 : Int32} {w9 : Int32} {w11 : Int32} {s0 : Int32} {s1 : Int32} {T : yT} {r : Int32} {Tr : yT} (hc : c0 + 1123 ≤ 4436) (h : f_L_marks_256 N w3 w6 w8 w9 w11 s0 s1 T = some (r, Tr)) {H : Heap} {locs : List Loc} {ls : Array Slot} (hW : yWd D cy x0 lo T H) (hS : va_S (yA lo) s.heap H locs) (hl : lv_has ls 16 [(0, .ref x0), (3, .long w3), (6, .int w6), (8, .int w8), (9, .int w9), (11, .int w11)]) : W p l e (headSpec wsM_marks ({ frames := 19, cells := 4436, slots := 35488, locals := 494 } : Room)).room s m args below meth c H locs (c0) (8 * (c0)) (MQ below (yQi D cy x0 lo r Tr) args s 4436 35488 (yA lo)) (F0 m 256 ls [.int s0, .int s1]) := by
  obtain ⟨hx, hb, hr, hml, hown, hts, hlocks, hK, hE, hlo, hlt⟩ := id C0
  unfold f_L_marks_256 at h
  refine lv_icmp_ne (tgt := 342) hx hb dL_marks_256 (by decide) (fun c1 => ?_) (fun c1 => ?_)
  · have h := zin c1 h
    exact t_L_marks_342 C0 N hN (c0 := c0)  (by omega) h hW hS (lv_sub hl [] rfl)
  · have h := zip c1 h
    refine lv_aload_n hx hb dL_marks_259 rfl (lv_at hl 0 rfl) ?_
    obtain ⟨q2, T4, e3, h⟩ := zbp_some h
    refine y_calll hS (va_runS (As := [.ref x0]) (rest := []) ⟨hx, hb, hml, hown, hts⟩ (m_L_all l hlt N hN e3) (va_cwS 1 hts (gM_L_all wsM_up) rfl rfl rfl (by decide +kernel) ⟨Nat.le_of_ble_eq_true rfl, Nat.le_of_ble_eq_true rfl⟩) (y_preS hK hE hlo hW hS [.ref x0]) rfl rfl hl.1 rfl (lv_room (Nat.le_of_ble_eq_true rfl)) dL_marks_260 ⟨by show c0 + 1101 ≤ 4436; omega, by show 8 * (c0) + 8808 ≤ 35488; omega⟩) (fun H locs hW hS => ?_)
    refine W.widen (k := c0 + 1101) (n := 8 * (c0 + 1101)) (by omega) (by omega) ?_
    refine lv_lload_n hx hb dL_marks_263 rfl (lv_at hl 1 rfl) ?_
    refine z_lc_ne (tgt := 342) hx hb dL_marks_264 dL_marks_265 (by decide) (fun c5 => ?_) (fun c5 => ?_)
    · have h := zin c5 h
      exact t_L_marks_342 C0 N hN (c0 := c0 + 1101)  (by omega) h hW hS (lv_sub hl [] rfl)
    · have h := zip c5 h
      refine lv_iload hx hb dL_marks_268 (lv_at hl 5 rfl) ?_
      refine lv_if_eq (tgt := 313) hx hb dL_marks_270 (by decide) (fun c6 => ?_) (fun c6 => ?_)
      · have h := zip c6 h
        refine lv_iload hx hb dL_marks_313 (lv_at hl 4 rfl) ?_
        refine lv_iload hx hb dL_marks_315 (lv_at hl 3 rfl) ?_
        refine lv_icmp_ne (tgt := 338) hx hb dL_marks_317 (by decide) (fun c7 => ?_) (fun c7 => ?_)
        · have h := zin c7 h
          exact t_L_marks_338 C0 N hN (c0 := c0 + 1101)  (by omega) h hW hS (lv_sub hl [] rfl)
        · have h := zip c7 h
          refine lv_aload_n hx hb dL_marks_320 rfl (lv_at hl 0 rfl) ?_
          refine lv_iconst (v := 4) hx hb dL_marks_321 (by decide) ?_
          refine lv_iload hx hb dL_marks_322 (lv_at hl 2 rfl) ?_
          refine lv_iload hx hb dL_marks_324 (lv_at hl 4 rfl) ?_
          refine lv_iload hx hb dL_marks_326 (lv_at hl 3 rfl) ?_
          refine lv_iconst (v := 0) hx hb dL_marks_328 (by decide) ?_
          obtain ⟨q8, T10, e9, h⟩ := zbp_some h
          refine y_calli hS (vx_runSW (As := [.ref x0, .int (4 : Int32), .int w6, .int w9, .int w8, .int (0 : Int32)]) (rest := []) ⟨hx, hb, hml, hown, hts⟩ (m_L_call l hlt N hN e9) (vx_cwSW (hh := [(0, 11, 12, 14), (0, 11, 18, 16), (0, 11, 24, 18)]) 6 hts (gM_L_call wsM_up) rfl rfl rfl (by decide +kernel) ⟨Nat.le_of_ble_eq_true rfl, Nat.le_of_ble_eq_true rfl⟩) (y_preS hK hE hlo hW hS [.ref x0, .int (4 : Int32), .int w6, .int w9, .int w8, .int (0 : Int32)]) rfl rfl hl.1 rfl (lv_room (Nat.le_of_ble_eq_true rfl)) dL_marks_329 ⟨by show c0 + 1101 + 11 ≤ 4436; omega, by show 8 * (c0 + 1101) + 88 ≤ 35488; omega⟩) (fun H locs hW hS => ?_)
          refine W.widen (k := c0 + 1112) (n := 8 * (c0 + 1112)) (by omega) (by omega) ?_
          refine lv_sipush (v := -8002) hx hb dL_marks_332 (by decide) ?_
          refine lv_icmp_ne (tgt := 342) hx hb dL_marks_335 (by decide) (fun c11 => ?_) (fun c11 => ?_)
          · have h := zin c11 h
            exact t_L_marks_342 C0 N hN (c0 := c0 + 1112)  (by omega) h hW hS (lv_sub hl [] rfl)
          · have h := zip c11 h
            exact t_L_marks_338 C0 N hN (c0 := c0 + 1112)  (by omega) h hW hS (lv_sub hl [] rfl)
      · have h := zin c6 h
        refine lv_aload_n hx hb dL_marks_273 rfl (lv_at hl 0 rfl) ?_
        refine lv_iconst (v := 4) hx hb dL_marks_274 (by decide) ?_
        refine lv_iload hx hb dL_marks_275 (lv_at hl 2 rfl) ?_
        refine lv_iload hx hb dL_marks_277 (lv_at hl 4 rfl) ?_
        refine lv_iload hx hb dL_marks_279 (lv_at hl 3 rfl) ?_
        refine lv_iconst (v := 0) hx hb dL_marks_281 (by decide) ?_
        obtain ⟨q12, T14, e13, h⟩ := zbp_some h
        refine y_calli hS (vx_runSW (As := [.ref x0, .int (4 : Int32), .int w6, .int w9, .int w8, .int (0 : Int32)]) (rest := []) ⟨hx, hb, hml, hown, hts⟩ (m_L_call l hlt N hN e13) (vx_cwSW (hh := [(0, 11, 12, 14), (0, 11, 18, 16), (0, 11, 24, 18)]) 6 hts (gM_L_call wsM_up) rfl rfl rfl (by decide +kernel) ⟨Nat.le_of_ble_eq_true rfl, Nat.le_of_ble_eq_true rfl⟩) (y_preS hK hE hlo hW hS [.ref x0, .int (4 : Int32), .int w6, .int w9, .int w8, .int (0 : Int32)]) rfl rfl hl.1 rfl (lv_room (Nat.le_of_ble_eq_true rfl)) dL_marks_282 ⟨by show c0 + 1101 + 11 ≤ 4436; omega, by show 8 * (c0 + 1101) + 88 ≤ 35488; omega⟩) (fun H locs hW hS => ?_)
        refine W.widen (k := c0 + 1112) (n := 8 * (c0 + 1112)) (by omega) (by omega) ?_
        refine lv_sipush (v := -8001) hx hb dL_marks_285 (by decide) ?_
        refine lv_icmp_ne (tgt := 342) hx hb dL_marks_288 (by decide) (fun c15 => ?_) (fun c15 => ?_)
        · have h := zin c15 h
          exact t_L_marks_342 C0 N hN (c0 := c0 + 1112)  (by omega) h hW hS (lv_sub hl [] rfl)
        · have h := zip c15 h
          refine lv_aload_n hx hb dL_marks_291 rfl (lv_at hl 0 rfl) ?_
          refine lv_bipush (v := 8) hx hb dL_marks_292 (by decide) ?_
          refine lv_iload hx hb dL_marks_294 (lv_at hl 2 rfl) ?_
          refine lv_iload hx hb dL_marks_296 (lv_at hl 4 rfl) ?_
          refine lv_iload hx hb dL_marks_298 (lv_at hl 3 rfl) ?_
          refine lv_iconst (v := 0) hx hb dL_marks_300 (by decide) ?_
          obtain ⟨q16, T18, e17, h⟩ := zbp_some h
          refine y_calli hS (vx_runSW (As := [.ref x0, .int (8 : Int32), .int w6, .int w9, .int w8, .int (0 : Int32)]) (rest := []) ⟨hx, hb, hml, hown, hts⟩ (m_L_call l hlt N hN e17) (vx_cwSW (hh := [(0, 11, 12, 14), (0, 11, 18, 16), (0, 11, 24, 18)]) 6 hts (gM_L_call wsM_up) rfl rfl rfl (by decide +kernel) ⟨Nat.le_of_ble_eq_true rfl, Nat.le_of_ble_eq_true rfl⟩) (y_preS hK hE hlo hW hS [.ref x0, .int (8 : Int32), .int w6, .int w9, .int w8, .int (0 : Int32)]) rfl rfl hl.1 rfl (lv_room (Nat.le_of_ble_eq_true rfl)) dL_marks_301 ⟨by show c0 + 1112 + 11 ≤ 4436; omega, by show 8 * (c0 + 1112) + 88 ≤ 35488; omega⟩) (fun H locs hW hS => ?_)
          refine W.widen (k := c0 + 1123) (n := 8 * (c0 + 1123)) (by omega) (by omega) ?_
          refine lv_sipush (v := -8001) hx hb dL_marks_304 (by decide) ?_
          refine lv_icmp_ne (tgt := 342) hx hb dL_marks_307 (by decide) (fun c19 => ?_) (fun c19 => ?_)
          · have h := zin c19 h
            exact t_L_marks_342 C0 N hN (c0 := c0 + 1123)  (by omega) h hW hS (lv_sub hl [] rfl)
          · have h := zip c19 h
            refine lv_goto (tgt := 338) hx hb dL_marks_310 (by decide) ?_
            exact t_L_marks_338 C0 N hN (c0 := c0 + 1123)  (by omega) h hW hS (lv_sub hl [] rfl)
noncomputable def f_L_marks_240 (N : Nat) (w3 : Int64) (w6 : Int32) (w8 : Int32) (w9 : Int32) (w11 : Int32) (w12 : Int32) (T : yT) : Option (Int32 × yT) :=
(if w11 = 0 then
f_L_marks_256 N w3 w6 w8 w9 w11 (-8002 : Int32) w12 T
else
f_L_marks_256 N w3 w6 w8 w9 w11 (-8001 : Int32) w12 T)
set_option maxRecDepth 100000 in
set_option maxHeartbeats 8000000 in
theorem t_L_marks_240 {p : Program} {l : Launch} {e : Env} {s : State} {m : MethodId} {args : Array Value} {below : List Frame} {meth : Method} {c : Code} {D : va_G} {cy : Nat → ClassId} {x0 lo : Nat} (C0 : yCx p l s m c meth args cL_marks 16 wsM_marks RL (some .boolean) D cy lo) (N : Nat) (hN : 10000000 ≤ N) {c0 : Nat} {w3 : Int64} {w6 : Int32} {w8 : Int32} {w9 : Int32} {w11 : Int32} {w12 : Int32} {T : yT} {r : Int32} {Tr : yT} (hc : c0 + 1123 ≤ 4436) (h : f_L_marks_240 N w3 w6 w8 w9 w11 w12 T = some (r, Tr)) {H : Heap} {locs : List Loc} {ls : Array Slot} (hW : yWd D cy x0 lo T H) (hS : va_S (yA lo) s.heap H locs) (hl : lv_has ls 16 [(0, .ref x0), (3, .long w3), (6, .int w6), (8, .int w8), (9, .int w9), (11, .int w11), (12, .int w12)]) : W p l e (headSpec wsM_marks ({ frames := 19, cells := 4436, slots := 35488, locals := 494 } : Room)).room s m args below meth c H locs (c0) (8 * (c0)) (MQ below (yQi D cy x0 lo r Tr) args s 4436 35488 (yA lo)) (F0 m 240 ls []) := by
  obtain ⟨hx, hb, hr, hml, hown, hts, hlocks, hK, hE, hlo, hlt⟩ := id C0
  unfold f_L_marks_240 at h
  refine lv_iload hx hb dL_marks_240 (lv_at hl 6 rfl) ?_
  refine lv_iload hx hb dL_marks_242 (lv_at hl 5 rfl) ?_
  refine lv_if_eq (tgt := 253) hx hb dL_marks_244 (by decide) (fun c1 => ?_) (fun c1 => ?_)
  · have h := zip c1 h
    refine lv_sipush (v := -8002) hx hb dL_marks_253 (by decide) ?_
    exact t_L_marks_256 C0 N hN (c0 := c0)  (by omega) h hW hS (lv_sub hl [0, 1, 2, 3, 4, 5] rfl)
  · have h := zin c1 h
    refine lv_sipush (v := -8001) hx hb dL_marks_247 (by decide) ?_
    refine lv_goto (tgt := 256) hx hb dL_marks_250 (by decide) ?_
    exact t_L_marks_256 C0 N hN (c0 := c0)  (by omega) h hW hS (lv_sub hl [0, 1, 2, 3, 4, 5] rfl)
noncomputable def f_L_marks_200 (N : Nat) (w1 : Int32) (w3 : Int64) (w6 : Int32) (w8 : Int32) (w9 : Int32) (w10 : Int32) (s0 : Int32) (T : yT) : Option (Int32 × yT) :=
zbp (f_L_call N T (3 : Int32) w6 w9 w8 w10) fun q1 T3 => (
(if s0 = 0 then
(if w9 = w8 then
f_L_marks_240 N w3 w6 w8 w9 s0 q1 T3
else
(if w10 < 0 then
f_L_marks_240 N w3 w6 w8 w9 s0 q1 T3
else
(if w10 ≤ (2 : Int32) then
(if q1 = (-8003 : Int32) then
(if w10 = (1 : Int32) then
zbp (f_L_all N T3) fun q31 T33 => (
(if q31 = w3 then
f_L_marks_372 N (1 : Int32) T33
else
f_L_marks_371 N T33))
else
f_L_marks_371 N T3)
else
zbp (f_L_all N T3) fun q9 T11 => (
(if q1 < 0 then
f_L_marks_497 N w1 w6 w8 w9 w10 q1 q9 T11
else
(if (3 : Int32) ≤ q1 then
f_L_marks_497 N w1 w6 w8 w9 w10 q1 q9 T11
else
zbp (y_X6_mark T11 w6 w9 w8 w10) fun q14 T16 => (
zx q14 (fun _ => none) fun r17 => (
(if r17 = w10 then
(if w10 = (1 : Int32) then
zbp (y_X6_trees T16 w6 (1 : Int32)) fun q20 T22 => (
zx q20 (fun _ => none) fun r23 => (
(if r23 = 0 then
f_L_marks_437 N w1 w3 w6 w8 w9 w10 q1 q9 T22
else
zbp (y_X6_head T22 w6 (1 : Int32) w8) fun q25 T27 => (
zx q25 (fun _ => none) fun r28 => (
(if r28 = w9 then
f_L_marks_437 N w1 w3 w6 w8 w9 w10 q1 q9 T27
else
f_L_marks_497 N w1 w6 w8 w9 w10 q1 q9 T27))))))
else
f_L_marks_437 N w1 w3 w6 w8 w9 w10 q1 q9 T16)
else
f_L_marks_497 N w1 w6 w8 w9 w10 q1 q9 T16)))))))
else
f_L_marks_240 N w3 w6 w8 w9 s0 q1 T3)))
else
f_L_marks_240 N w3 w6 w8 w9 s0 q1 T3))
set_option maxRecDepth 100000 in
set_option maxHeartbeats 8000000 in
theorem t_L_marks_200 {p : Program} {l : Launch} {e : Env} {s : State} {m : MethodId} {args : Array Value} {below : List Frame} {meth : Method} {c : Code} {D : va_G} {cy : Nat → ClassId} {x0 lo : Nat} (C0 : yCx p l s m c meth args cL_marks 16 wsM_marks RL (some .boolean) D cy lo) (N : Nat) (hN : 10000000 ≤ N) {c0 : Nat} {w1 : Int32} {w3 : Int64} {w6 : Int32} {w8 : Int32} {w9 : Int32} {w10 : Int32} {s0 : Int32} {T : yT} {r : Int32} {Tr : yT} (hc : c0 + 3334 ≤ 4436) (h : f_L_marks_200 N w1 w3 w6 w8 w9 w10 s0 T = some (r, Tr)) {H : Heap} {locs : List Loc} {ls : Array Slot} (hW : yWd D cy x0 lo T H) (hS : va_S (yA lo) s.heap H locs) (hl : lv_has ls 16 [(0, .ref x0), (1, .int w1), (3, .long w3), (6, .int w6), (8, .int w8), (9, .int w9), (10, .int w10)]) : W p l e (headSpec wsM_marks ({ frames := 19, cells := 4436, slots := 35488, locals := 494 } : Room)).room s m args below meth c H locs (c0) (8 * (c0)) (MQ below (yQi D cy x0 lo r Tr) args s 4436 35488 (yA lo)) (F0 m 200 ls [.int s0]) := by
  obtain ⟨hx, hb, hr, hml, hown, hts, hlocks, hK, hE, hlo, hlt⟩ := id C0
  unfold f_L_marks_200 at h
  refine lv_istore (lv' := [(11, .int s0), (0, .ref x0), (1, .int w1), (3, .long w3), (6, .int w6), (8, .int w8), (9, .int w9), (10, .int w10)]) hx hb dL_marks_200 hl (by decide) rfl (fun ls hl => ?_)
  refine lv_aload_n hx hb dL_marks_202 rfl (lv_at hl 1 rfl) ?_
  refine lv_iconst (v := 3) hx hb dL_marks_203 (by decide) ?_
  refine lv_iload hx hb dL_marks_204 (lv_at hl 4 rfl) ?_
  refine lv_iload hx hb dL_marks_206 (lv_at hl 6 rfl) ?_
  refine lv_iload hx hb dL_marks_208 (lv_at hl 5 rfl) ?_
  refine lv_iload hx hb dL_marks_210 (lv_at hl 7 rfl) ?_
  obtain ⟨q1, T3, e2, h⟩ := zbp_some h
  refine y_calli hS (vx_runSW (As := [.ref x0, .int (3 : Int32), .int w6, .int w9, .int w8, .int w10]) (rest := []) ⟨hx, hb, hml, hown, hts⟩ (m_L_call l hlt N hN e2) (vx_cwSW (hh := [(0, 11, 12, 14), (0, 11, 18, 16), (0, 11, 24, 18)]) 6 hts (gM_L_call wsM_up) rfl rfl rfl (by decide +kernel) ⟨Nat.le_of_ble_eq_true rfl, Nat.le_of_ble_eq_true rfl⟩) (y_preS hK hE hlo hW hS [.ref x0, .int (3 : Int32), .int w6, .int w9, .int w8, .int w10]) rfl rfl hl.1 rfl (lv_room (Nat.le_of_ble_eq_true rfl)) dL_marks_212 ⟨by show c0 + 11 ≤ 4436; omega, by show 8 * (c0) + 88 ≤ 35488; omega⟩) (fun H locs hW hS => ?_)
  refine W.widen (k := c0 + 11) (n := 8 * (c0 + 11)) (by omega) (by omega) ?_
  refine lv_istore (lv' := [(12, .int q1), (11, .int s0), (0, .ref x0), (1, .int w1), (3, .long w3), (6, .int w6), (8, .int w8), (9, .int w9), (10, .int w10)]) hx hb dL_marks_215 hl (by decide) rfl (fun ls hl => ?_)
  refine lv_iload hx hb dL_marks_217 (lv_at hl 1 rfl) ?_
  refine lv_if_ne (tgt := 240) hx hb dL_marks_219 (by decide) (fun c4 => ?_) (fun c4 => ?_)
  · have h := zin c4 h
    exact t_L_marks_240 C0 N hN (c0 := c0 + 11)  (by omega) h hW hS (lv_sub hl [2, 4, 5, 6, 7, 1, 0] rfl)
  · have h := zip c4 h
    refine lv_iload hx hb dL_marks_222 (lv_at hl 7 rfl) ?_
    refine lv_iload hx hb dL_marks_224 (lv_at hl 6 rfl) ?_
    refine lv_icmp_eq (tgt := 240) hx hb dL_marks_226 (by decide) (fun c5 => ?_) (fun c5 => ?_)
    · have h := zip c5 h
      exact t_L_marks_240 C0 N hN (c0 := c0 + 11)  (by omega) h hW hS (lv_sub hl [2, 4, 5, 6, 7, 1, 0] rfl)
    · have h := zin c5 h
      refine lv_iload hx hb dL_marks_229 (lv_at hl 8 rfl) ?_
      refine lv_if_lt (tgt := 240) hx hb dL_marks_231 (by decide) (fun c6 => ?_) (fun c6 => ?_)
      · have h := zip c6 h
        exact t_L_marks_240 C0 N hN (c0 := c0 + 11)  (by omega) h hW hS (lv_sub hl [2, 4, 5, 6, 7, 1, 0] rfl)
      · have h := zin c6 h
        refine lv_iload hx hb dL_marks_234 (lv_at hl 8 rfl) ?_
        refine lv_iconst (v := 2) hx hb dL_marks_236 (by decide) ?_
        refine lv_icmp_le (tgt := 344) hx hb dL_marks_237 (by decide) (fun c7 => ?_) (fun c7 => ?_)
        · have h := zip c7 h
          refine lv_iload hx hb dL_marks_344 (lv_at hl 0 rfl) ?_
          refine lv_sipush (v := -8003) hx hb dL_marks_346 (by decide) ?_
          refine lv_icmp_ne (tgt := 373) hx hb dL_marks_349 (by decide) (fun c8 => ?_) (fun c8 => ?_)
          · have h := zin c8 h
            refine lv_aload_n hx hb dL_marks_373 rfl (lv_at hl 2 rfl) ?_
            obtain ⟨q9, T11, e10, h⟩ := zbp_some h
            refine y_calll hS (va_runS (As := [.ref x0]) (rest := []) ⟨hx, hb, hml, hown, hts⟩ (m_L_all l hlt N hN e10) (va_cwS 1 hts (gM_L_all wsM_up) rfl rfl rfl (by decide +kernel) ⟨Nat.le_of_ble_eq_true rfl, Nat.le_of_ble_eq_true rfl⟩) (y_preS hK hE hlo hW hS [.ref x0]) rfl rfl hl.1 rfl (lv_room (Nat.le_of_ble_eq_true rfl)) dL_marks_374 ⟨by show c0 + 11 + 1101 ≤ 4436; omega, by show 8 * (c0 + 11) + 8808 ≤ 35488; omega⟩) (fun H locs hW hS => ?_)
            refine W.widen (k := c0 + 1112) (n := 8 * (c0 + 1112)) (by omega) (by omega) ?_
            refine lv_lstore (lv' := [(13, .long q9), (12, .int q1), (11, .int s0), (0, .ref x0), (1, .int w1), (3, .long w3), (6, .int w6), (8, .int w8), (9, .int w9), (10, .int w10)]) hx hb dL_marks_377 hl (by decide) rfl (fun ls hl => ?_)
            refine lv_iload hx hb dL_marks_379 (lv_at hl 1 rfl) ?_
            refine lv_if_lt (tgt := 497) hx hb dL_marks_381 (by decide) (fun c12 => ?_) (fun c12 => ?_)
            · have h := zip c12 h
              exact t_L_marks_497 C0 N hN (c0 := c0 + 1112)  (by omega) h hW hS (lv_sub hl [3, 4, 6, 7, 8, 9, 1, 0] rfl)
            · have h := zin c12 h
              refine lv_iload hx hb dL_marks_384 (lv_at hl 1 rfl) ?_
              refine lv_iconst (v := 3) hx hb dL_marks_386 (by decide) ?_
              refine lv_icmp_ge (tgt := 497) hx hb dL_marks_387 (by decide) (fun c13 => ?_) (fun c13 => ?_)
              · have h := zip c13 h
                exact t_L_marks_497 C0 N hN (c0 := c0 + 1112)  (by omega) h hW hS (lv_sub hl [3, 4, 6, 7, 8, 9, 1, 0] rfl)
              · have h := zin c13 h
                refine lv_aload_n hx hb dL_marks_390 rfl (lv_at hl 3 rfl) ?_
                refine lv_iload hx hb dL_marks_391 (lv_at hl 6 rfl) ?_
                refine lv_iload hx hb dL_marks_393 (lv_at hl 8 rfl) ?_
                refine lv_iload hx hb dL_marks_395 (lv_at hl 7 rfl) ?_
                refine lv_iload hx hb dL_marks_397 (lv_at hl 9 rfl) ?_
                obtain ⟨q14, T16, e15, h⟩ := zbp_some h
                refine y_xcalli hS (vx_runV (As := [.int w6, .int w9, .int w8, .int w10]) (rest := []) ⟨hx, hb, hml, hown, hts⟩ (n_X6_mark l hlt N hN e15) (cwV 4 hts (gM_X6_mark wsM_up) rfl rfl rfl (by decide +kernel) ⟨Nat.le_of_ble_eq_true rfl, Nat.le_of_ble_eq_true rfl⟩) (y_preV hK hE hlo hW hS [.int w6, .int w9, .int w8, .int w10]) rfl rfl hl.1 rfl (lv_room (Nat.le_of_ble_eq_true rfl)) dL_marks_399 ⟨by show c0 + 1112 + 4 ≤ 4436; omega, by show 8 * (c0 + 1112) + 24 ≤ 35488; omega⟩) (fun k hk H locs q9 ce hW hS hce hcv hcl => by subst hk; cases (show (none : Option (Int32 × yT)) = some (r, Tr) from zx_l h)) (fun r17 hk H locs hW hS => ?_)
                subst hk
                have h := zx_r h
                refine W.widen (k := c0 + 1116) (n := 8 * (c0 + 1116)) (by omega) (by omega) ?_
                refine lv_iload hx hb dL_marks_402 (lv_at hl 9 rfl) ?_
                refine lv_icmp_ne (tgt := 497) hx hb dL_marks_404 (by decide) (fun c18 => ?_) (fun c18 => ?_)
                · have h := zin c18 h
                  exact t_L_marks_497 C0 N hN (c0 := c0 + 1116)  (by omega) h hW hS (lv_sub hl [3, 4, 6, 7, 8, 9, 1, 0] rfl)
                · have h := zip c18 h
                  refine lv_iload hx hb dL_marks_407 (lv_at hl 9 rfl) ?_
                  refine lv_iconst (v := 1) hx hb dL_marks_409 (by decide) ?_
                  refine lv_icmp_ne (tgt := 437) hx hb dL_marks_410 (by decide) (fun c19 => ?_) (fun c19 => ?_)
                  · have h := zin c19 h
                    exact t_L_marks_437 C0 N hN (c0 := c0 + 1116)  (by omega) h hW hS (lv_sub hl [3, 4, 5, 6, 7, 8, 9, 1, 0] rfl)
                  · have h := zip c19 h
                    refine lv_aload_n hx hb dL_marks_413 rfl (lv_at hl 3 rfl) ?_
                    refine lv_iload hx hb dL_marks_414 (lv_at hl 6 rfl) ?_
                    refine lv_iconst (v := 1) hx hb dL_marks_416 (by decide) ?_
                    obtain ⟨q20, T22, e21, h⟩ := zbp_some h
                    refine y_xcalli hS (vx_runV (As := [.int w6, .int (1 : Int32)]) (rest := []) ⟨hx, hb, hml, hown, hts⟩ (n_X6_trees l hlt N hN e21) (cwV 2 hts (gM_X6_trees wsM_up) rfl rfl rfl (by decide +kernel) ⟨Nat.le_of_ble_eq_true rfl, Nat.le_of_ble_eq_true rfl⟩) (y_preV hK hE hlo hW hS [.int w6, .int (1 : Int32)]) rfl rfl hl.1 rfl (lv_room (Nat.le_of_ble_eq_true rfl)) dL_marks_417 ⟨by show c0 + 1116 + 1 ≤ 4436; omega, by show 8 * (c0 + 1116) + 6 ≤ 35488; omega⟩) (fun k hk H locs q9 ce hW hS hce hcv hcl => by subst hk; cases (show (none : Option (Int32 × yT)) = some (r, Tr) from zx_l h)) (fun r23 hk H locs hW hS => ?_)
                    subst hk
                    have h := zx_r h
                    refine W.widen (k := c0 + 1117) (n := 8 * (c0 + 1117)) (by omega) (by omega) ?_
                    refine lv_if_eq (tgt := 437) hx hb dL_marks_420 (by decide) (fun c24 => ?_) (fun c24 => ?_)
                    · have h := zip c24 h
                      exact t_L_marks_437 C0 N hN (c0 := c0 + 1117)  (by omega) h hW hS (lv_sub hl [3, 4, 5, 6, 7, 8, 9, 1, 0] rfl)
                    · have h := zin c24 h
                      refine lv_aload_n hx hb dL_marks_423 rfl (lv_at hl 3 rfl) ?_
                      refine lv_iload hx hb dL_marks_424 (lv_at hl 6 rfl) ?_
                      refine lv_iconst (v := 1) hx hb dL_marks_426 (by decide) ?_
                      refine lv_iload hx hb dL_marks_427 (lv_at hl 7 rfl) ?_
                      obtain ⟨q25, T27, e26, h⟩ := zbp_some h
                      refine y_xcalli hS (vx_runV (As := [.int w6, .int (1 : Int32), .int w8]) (rest := []) ⟨hx, hb, hml, hown, hts⟩ (n_X6_head l hlt N hN e26) (cwV 3 hts (gM_X6_head wsM_up) rfl rfl rfl (by decide +kernel) ⟨Nat.le_of_ble_eq_true rfl, Nat.le_of_ble_eq_true rfl⟩) (y_preV hK hE hlo hW hS [.int w6, .int (1 : Int32), .int w8]) rfl rfl hl.1 rfl (lv_room (Nat.le_of_ble_eq_true rfl)) dL_marks_429 ⟨by show c0 + 1117 + 3 ≤ 4436; omega, by show 8 * (c0 + 1117) + 18 ≤ 35488; omega⟩) (fun k hk H locs q9 ce hW hS hce hcv hcl => by subst hk; cases (show (none : Option (Int32 × yT)) = some (r, Tr) from zx_l h)) (fun r28 hk H locs hW hS => ?_)
                      subst hk
                      have h := zx_r h
                      refine W.widen (k := c0 + 1120) (n := 8 * (c0 + 1120)) (by omega) (by omega) ?_
                      refine lv_iload hx hb dL_marks_432 (lv_at hl 8 rfl) ?_
                      refine lv_icmp_ne (tgt := 497) hx hb dL_marks_434 (by decide) (fun c29 => ?_) (fun c29 => ?_)
                      · have h := zin c29 h
                        exact t_L_marks_497 C0 N hN (c0 := c0 + 1120)  (by omega) h hW hS (lv_sub hl [3, 4, 6, 7, 8, 9, 1, 0] rfl)
                      · have h := zip c29 h
                        exact t_L_marks_437 C0 N hN (c0 := c0 + 1120)  (by omega) h hW hS (lv_sub hl [3, 4, 5, 6, 7, 8, 9, 1, 0] rfl)
          · have h := zip c8 h
            refine lv_iload hx hb dL_marks_352 (lv_at hl 8 rfl) ?_
            refine lv_iconst (v := 1) hx hb dL_marks_354 (by decide) ?_
            refine lv_icmp_ne (tgt := 371) hx hb dL_marks_355 (by decide) (fun c30 => ?_) (fun c30 => ?_)
            · have h := zin c30 h
              exact t_L_marks_371 C0 N hN (c0 := c0 + 11)  (by omega) h hW hS (lv_sub hl [] rfl)
            · have h := zip c30 h
              refine lv_aload_n hx hb dL_marks_358 rfl (lv_at hl 2 rfl) ?_
              obtain ⟨q31, T33, e32, h⟩ := zbp_some h
              refine y_calll hS (va_runS (As := [.ref x0]) (rest := []) ⟨hx, hb, hml, hown, hts⟩ (m_L_all l hlt N hN e32) (va_cwS 1 hts (gM_L_all wsM_up) rfl rfl rfl (by decide +kernel) ⟨Nat.le_of_ble_eq_true rfl, Nat.le_of_ble_eq_true rfl⟩) (y_preS hK hE hlo hW hS [.ref x0]) rfl rfl hl.1 rfl (lv_room (Nat.le_of_ble_eq_true rfl)) dL_marks_359 ⟨by show c0 + 11 + 1101 ≤ 4436; omega, by show 8 * (c0 + 11) + 8808 ≤ 35488; omega⟩) (fun H locs hW hS => ?_)
              refine W.widen (k := c0 + 1112) (n := 8 * (c0 + 1112)) (by omega) (by omega) ?_
              refine lv_lload_n hx hb dL_marks_362 rfl (lv_at hl 4 rfl) ?_
              refine z_lc_ne (tgt := 371) hx hb dL_marks_363 dL_marks_364 (by decide) (fun c34 => ?_) (fun c34 => ?_)
              · have h := zin c34 h
                exact t_L_marks_371 C0 N hN (c0 := c0 + 1112)  (by omega) h hW hS (lv_sub hl [] rfl)
              · have h := zip c34 h
                refine lv_iconst (v := 1) hx hb dL_marks_367 (by decide) ?_
                refine lv_goto (tgt := 372) hx hb dL_marks_368 (by decide) ?_
                exact t_L_marks_372 C0 N hN (c0 := c0 + 1112)  (by omega) h hW hS (lv_sub hl [] rfl)
        · have h := zin c7 h
          exact t_L_marks_240 C0 N hN (c0 := c0 + 11)  (by omega) h hW hS (lv_sub hl [2, 4, 5, 6, 7, 1, 0] rfl)
noncomputable def f_L_marks_195 (N : Nat) (w1 : Int32) (w3 : Int64) (w6 : Int32) (w8 : Int32) (w9 : Int32) (w10 : Int32) (T : yT) : Option (Int32 × yT) :=
f_L_marks_200 N w1 w3 w6 w8 w9 w10 (1 : Int32) T
set_option maxRecDepth 100000 in
set_option maxHeartbeats 8000000 in
theorem t_L_marks_195 {p : Program} {l : Launch} {e : Env} {s : State} {m : MethodId} {args : Array Value} {below : List Frame} {meth : Method} {c : Code} {D : va_G} {cy : Nat → ClassId} {x0 lo : Nat} (C0 : yCx p l s m c meth args cL_marks 16 wsM_marks RL (some .boolean) D cy lo) (N : Nat) (hN : 10000000 ≤ N) {c0 : Nat} {w1 : Int32} {w3 : Int64} {w6 : Int32} {w8 : Int32} {w9 : Int32} {w10 : Int32} {T : yT} {r : Int32} {Tr : yT} (hc : c0 + 3334 ≤ 4436) (h : f_L_marks_195 N w1 w3 w6 w8 w9 w10 T = some (r, Tr)) {H : Heap} {locs : List Loc} {ls : Array Slot} (hW : yWd D cy x0 lo T H) (hS : va_S (yA lo) s.heap H locs) (hl : lv_has ls 16 [(0, .ref x0), (1, .int w1), (3, .long w3), (6, .int w6), (8, .int w8), (9, .int w9), (10, .int w10)]) : W p l e (headSpec wsM_marks ({ frames := 19, cells := 4436, slots := 35488, locals := 494 } : Room)).room s m args below meth c H locs (c0) (8 * (c0)) (MQ below (yQi D cy x0 lo r Tr) args s 4436 35488 (yA lo)) (F0 m 195 ls []) := by
  obtain ⟨hx, hb, hr, hml, hown, hts, hlocks, hK, hE, hlo, hlt⟩ := id C0
  unfold f_L_marks_195 at h
  refine lv_iconst (v := 1) hx hb dL_marks_195 (by decide) ?_
  refine lv_goto (tgt := 200) hx hb dL_marks_196 (by decide) ?_
  exact t_L_marks_200 C0 N hN (c0 := c0)  (by omega) h hW hS (lv_sub hl [0, 1, 2, 3, 4, 5, 6] rfl)
noncomputable def f_L_marks_156 (N : Nat) (w1 : Int32) (w3 : Int64) (w5 : Int32) (w6 : Int32) (w7 : Int32) (w8 : Int32) (w9 : Int32) (s0 : Int32) (T : yT) : Option (Int32 × yT) :=
(if w6 < 0 then
f_L_marks_195 N w1 w3 w6 w8 w9 s0 T
else
(if w5 ≤ w6 then
f_L_marks_195 N w1 w3 w6 w8 w9 s0 T
else
(if w8 < (1 : Int32) then
f_L_marks_195 N w1 w3 w6 w8 w9 s0 T
else
(if w7 < w8 then
f_L_marks_195 N w1 w3 w6 w8 w9 s0 T
else
(if w9 < 0 then
f_L_marks_195 N w1 w3 w6 w8 w9 s0 T
else
(if w9 ≤ w7 then
f_L_marks_200 N w1 w3 w6 w8 w9 s0 (0 : Int32) T
else
f_L_marks_195 N w1 w3 w6 w8 w9 s0 T))))))
set_option maxRecDepth 100000 in
set_option maxHeartbeats 8000000 in
theorem t_L_marks_156 {p : Program} {l : Launch} {e : Env} {s : State} {m : MethodId} {args : Array Value} {below : List Frame} {meth : Method} {c : Code} {D : va_G} {cy : Nat → ClassId} {x0 lo : Nat} (C0 : yCx p l s m c meth args cL_marks 16 wsM_marks RL (some .boolean) D cy lo) (N : Nat) (hN : 10000000 ≤ N) {c0 : Nat} {w1 : Int32} {w3 : Int64} {w5 : Int32} {w6 : Int32} {w7 : Int32} {w8 : Int32} {w9 : Int32} {s0 : Int32} {T : yT} {r : Int32} {Tr : yT} (hc : c0 + 3334 ≤ 4436) (h : f_L_marks_156 N w1 w3 w5 w6 w7 w8 w9 s0 T = some (r, Tr)) {H : Heap} {locs : List Loc} {ls : Array Slot} (hW : yWd D cy x0 lo T H) (hS : va_S (yA lo) s.heap H locs) (hl : lv_has ls 16 [(0, .ref x0), (1, .int w1), (3, .long w3), (5, .int w5), (6, .int w6), (7, .int w7), (8, .int w8), (9, .int w9)]) : W p l e (headSpec wsM_marks ({ frames := 19, cells := 4436, slots := 35488, locals := 494 } : Room)).room s m args below meth c H locs (c0) (8 * (c0)) (MQ below (yQi D cy x0 lo r Tr) args s 4436 35488 (yA lo)) (F0 m 156 ls [.int s0]) := by
  obtain ⟨hx, hb, hr, hml, hown, hts, hlocks, hK, hE, hlo, hlt⟩ := id C0
  unfold f_L_marks_156 at h
  refine lv_istore (lv' := [(10, .int s0), (0, .ref x0), (1, .int w1), (3, .long w3), (5, .int w5), (6, .int w6), (7, .int w7), (8, .int w8), (9, .int w9)]) hx hb dL_marks_156 hl (by decide) rfl (fun ls hl => ?_)
  refine lv_iload hx hb dL_marks_158 (lv_at hl 5 rfl) ?_
  refine lv_if_lt (tgt := 195) hx hb dL_marks_160 (by decide) (fun c1 => ?_) (fun c1 => ?_)
  · have h := zip c1 h
    exact t_L_marks_195 C0 N hN (c0 := c0)  (by omega) h hW hS (lv_sub hl [1, 2, 3, 5, 7, 8, 0] rfl)
  · have h := zin c1 h
    refine lv_iload hx hb dL_marks_163 (lv_at hl 5 rfl) ?_
    refine lv_iload hx hb dL_marks_165 (lv_at hl 4 rfl) ?_
    refine lv_icmp_ge (tgt := 195) hx hb dL_marks_167 (by decide) (fun c2 => ?_) (fun c2 => ?_)
    · have h := zip c2 h
      exact t_L_marks_195 C0 N hN (c0 := c0)  (by omega) h hW hS (lv_sub hl [1, 2, 3, 5, 7, 8, 0] rfl)
    · have h := zin c2 h
      refine lv_iload hx hb dL_marks_170 (lv_at hl 7 rfl) ?_
      refine lv_iconst (v := 1) hx hb dL_marks_172 (by decide) ?_
      refine lv_icmp_lt (tgt := 195) hx hb dL_marks_173 (by decide) (fun c3 => ?_) (fun c3 => ?_)
      · have h := zip c3 h
        exact t_L_marks_195 C0 N hN (c0 := c0)  (by omega) h hW hS (lv_sub hl [1, 2, 3, 5, 7, 8, 0] rfl)
      · have h := zin c3 h
        refine lv_iload hx hb dL_marks_176 (lv_at hl 7 rfl) ?_
        refine lv_iload hx hb dL_marks_178 (lv_at hl 6 rfl) ?_
        refine lv_icmp_gt (tgt := 195) hx hb dL_marks_180 (by decide) (fun c4 => ?_) (fun c4 => ?_)
        · have h := zip c4 h
          exact t_L_marks_195 C0 N hN (c0 := c0)  (by omega) h hW hS (lv_sub hl [1, 2, 3, 5, 7, 8, 0] rfl)
        · have h := zin c4 h
          refine lv_iload hx hb dL_marks_183 (lv_at hl 8 rfl) ?_
          refine lv_if_lt (tgt := 195) hx hb dL_marks_185 (by decide) (fun c5 => ?_) (fun c5 => ?_)
          · have h := zip c5 h
            exact t_L_marks_195 C0 N hN (c0 := c0)  (by omega) h hW hS (lv_sub hl [1, 2, 3, 5, 7, 8, 0] rfl)
          · have h := zin c5 h
            refine lv_iload hx hb dL_marks_188 (lv_at hl 8 rfl) ?_
            refine lv_iload hx hb dL_marks_190 (lv_at hl 6 rfl) ?_
            refine lv_icmp_le (tgt := 199) hx hb dL_marks_192 (by decide) (fun c6 => ?_) (fun c6 => ?_)
            · have h := zip c6 h
              refine lv_iconst (v := 0) hx hb dL_marks_199 (by decide) ?_
              exact t_L_marks_200 C0 N hN (c0 := c0)  (by omega) h hW hS (lv_sub hl [1, 2, 3, 5, 7, 8, 0] rfl)
            · have h := zin c6 h
              exact t_L_marks_195 C0 N hN (c0 := c0)  (by omega) h hW hS (lv_sub hl [1, 2, 3, 5, 7, 8, 0] rfl)
noncomputable def f_L_marks_128 (N : Nat) (w1 : Int32) (w2 : Int32) (w3 : Int64) (w5 : Int32) (w6 : Int32) (w7 : Int32) (w8 : Int32) (s0 : Int32) (T : yT) : Option (Int32 × yT) :=
(if w2 = 0 then
(f_L_some N (w1 >>> ((9 : Int32) &&& 31)) (3 : Int32)).bind fun q2 => (
f_L_marks_156 N w1 w3 w5 w6 w7 w8 s0 q2 T)
else
(f_L_some N (w1 >>> ((9 : Int32) &&& 31)) (6 : Int32)).bind fun q4 => (
f_L_marks_156 N w1 w3 w5 w6 w7 w8 s0 (q4 - (1 : Int32)) T))
set_option maxRecDepth 100000 in
set_option maxHeartbeats 8000000 in
theorem t_L_marks_128 {p : Program} {l : Launch} {e : Env} {s : State} {m : MethodId} {args : Array Value} {below : List Frame} {meth : Method} {c : Code} {D : va_G} {cy : Nat → ClassId} {x0 lo : Nat} (C0 : yCx p l s m c meth args cL_marks 16 wsM_marks RL (some .boolean) D cy lo) (N : Nat) (hN : 10000000 ≤ N) {c0 : Nat} {w1 : Int32} {w2 : Int32} {w3 : Int64} {w5 : Int32} {w6 : Int32} {w7 : Int32} {w8 : Int32} {s0 : Int32} {T : yT} {r : Int32} {Tr : yT} (hc : c0 + 3334 ≤ 4436) (h : f_L_marks_128 N w1 w2 w3 w5 w6 w7 w8 s0 T = some (r, Tr)) {H : Heap} {locs : List Loc} {ls : Array Slot} (hW : yWd D cy x0 lo T H) (hS : va_S (yA lo) s.heap H locs) (hl : lv_has ls 16 [(0, .ref x0), (1, .int w1), (2, .int w2), (3, .long w3), (5, .int w5), (6, .int w6), (7, .int w7), (8, .int w8)]) : W p l e (headSpec wsM_marks ({ frames := 19, cells := 4436, slots := 35488, locals := 494 } : Room)).room s m args below meth c H locs (c0) (8 * (c0)) (MQ below (yQi D cy x0 lo r Tr) args s 4436 35488 (yA lo)) (F0 m 128 ls [.int s0]) := by
  obtain ⟨hx, hb, hr, hml, hown, hts, hlocks, hK, hE, hlo, hlt⟩ := id C0
  unfold f_L_marks_128 at h
  refine lv_istore (lv' := [(9, .int s0), (0, .ref x0), (1, .int w1), (2, .int w2), (3, .long w3), (5, .int w5), (6, .int w6), (7, .int w7), (8, .int w8)]) hx hb dL_marks_128 hl (by decide) rfl (fun ls hl => ?_)
  refine lv_iload_n hx hb dL_marks_130 rfl (lv_at hl 3 rfl) ?_
  refine lv_if_eq (tgt := 148) hx hb dL_marks_131 (by decide) (fun c1 => ?_) (fun c1 => ?_)
  · have h := zip c1 h
    refine lv_iload_n hx hb dL_marks_148 rfl (lv_at hl 2 rfl) ?_
    refine lv_bipush (v := 9) hx hb dL_marks_149 (by decide) ?_
    refine lv_ishr hx hb dL_marks_151 ?_
    refine lv_iconst (v := 3) hx hb dL_marks_152 (by decide) ?_
    obtain ⟨q2, e3, h⟩ := zb_some h
    refine y_calli hS (va_runS (As := [.int (w1 >>> ((9 : Int32) &&& 31)), .int (3 : Int32)]) (rest := []) ⟨hx, hb, hml, hown, hts⟩ (m_L_some l hlt N hN (T := T) e3) (va_cwS 2 hts (gM_L_some wsM_up) rfl rfl rfl (by decide +kernel) ⟨Nat.le_of_ble_eq_true rfl, Nat.le_of_ble_eq_true rfl⟩) (y_preS hK hE hlo hW hS [.int (w1 >>> ((9 : Int32) &&& 31)), .int (3 : Int32)]) rfl rfl hl.1 rfl (lv_room (Nat.le_of_ble_eq_true rfl)) dL_marks_153 ⟨by show c0 + 0 ≤ 4436; omega, by show 8 * (c0) + 0 ≤ 35488; omega⟩) (fun H locs hW hS => ?_)
    exact t_L_marks_156 C0 N hN (c0 := c0)  (by omega) h hW hS (lv_sub hl [1, 2, 4, 5, 6, 7, 8, 0] rfl)
  · have h := zin c1 h
    refine lv_iload_n hx hb dL_marks_134 rfl (lv_at hl 2 rfl) ?_
    refine lv_bipush (v := 9) hx hb dL_marks_135 (by decide) ?_
    refine lv_ishr hx hb dL_marks_137 ?_
    refine lv_bipush (v := 6) hx hb dL_marks_138 (by decide) ?_
    obtain ⟨q4, e5, h⟩ := zb_some h
    refine y_calli hS (va_runS (As := [.int (w1 >>> ((9 : Int32) &&& 31)), .int (6 : Int32)]) (rest := []) ⟨hx, hb, hml, hown, hts⟩ (m_L_some l hlt N hN (T := T) e5) (va_cwS 2 hts (gM_L_some wsM_up) rfl rfl rfl (by decide +kernel) ⟨Nat.le_of_ble_eq_true rfl, Nat.le_of_ble_eq_true rfl⟩) (y_preS hK hE hlo hW hS [.int (w1 >>> ((9 : Int32) &&& 31)), .int (6 : Int32)]) rfl rfl hl.1 rfl (lv_room (Nat.le_of_ble_eq_true rfl)) dL_marks_140 ⟨by show c0 + 0 ≤ 4436; omega, by show 8 * (c0) + 0 ≤ 35488; omega⟩) (fun H locs hW hS => ?_)
    refine lv_iconst (v := 1) hx hb dL_marks_143 (by decide) ?_
    refine lv_isub hx hb dL_marks_144 ?_
    refine lv_goto (tgt := 156) hx hb dL_marks_145 (by decide) ?_
    exact t_L_marks_156 C0 N hN (c0 := c0)  (by omega) h hW hS (lv_sub hl [1, 2, 4, 5, 6, 7, 8, 0] rfl)
noncomputable def f_L_marks_97 (N : Nat) (w1 : Int32) (w2 : Int32) (w3 : Int64) (w5 : Int32) (w6 : Int32) (w7 : Int32) (s0 : Int32) (T : yT) : Option (Int32 × yT) :=
(if w2 = 0 then
(f_L_some N (w1 >>> ((6 : Int32) &&& 31)) (w7 + (1 : Int32))).bind fun q2 => (
f_L_marks_128 N w1 w2 w3 w5 w6 w7 s0 q2 T)
else
(f_L_some N (w1 >>> ((6 : Int32) &&& 31)) (9 : Int32)).bind fun q4 => (
f_L_marks_128 N w1 w2 w3 w5 w6 w7 s0 (q4 - (1 : Int32)) T))
set_option maxRecDepth 100000 in
set_option maxHeartbeats 8000000 in
theorem t_L_marks_97 {p : Program} {l : Launch} {e : Env} {s : State} {m : MethodId} {args : Array Value} {below : List Frame} {meth : Method} {c : Code} {D : va_G} {cy : Nat → ClassId} {x0 lo : Nat} (C0 : yCx p l s m c meth args cL_marks 16 wsM_marks RL (some .boolean) D cy lo) (N : Nat) (hN : 10000000 ≤ N) {c0 : Nat} {w1 : Int32} {w2 : Int32} {w3 : Int64} {w5 : Int32} {w6 : Int32} {w7 : Int32} {s0 : Int32} {T : yT} {r : Int32} {Tr : yT} (hc : c0 + 3334 ≤ 4436) (h : f_L_marks_97 N w1 w2 w3 w5 w6 w7 s0 T = some (r, Tr)) {H : Heap} {locs : List Loc} {ls : Array Slot} (hW : yWd D cy x0 lo T H) (hS : va_S (yA lo) s.heap H locs) (hl : lv_has ls 16 [(0, .ref x0), (1, .int w1), (2, .int w2), (3, .long w3), (5, .int w5), (6, .int w6), (7, .int w7)]) : W p l e (headSpec wsM_marks ({ frames := 19, cells := 4436, slots := 35488, locals := 494 } : Room)).room s m args below meth c H locs (c0) (8 * (c0)) (MQ below (yQi D cy x0 lo r Tr) args s 4436 35488 (yA lo)) (F0 m 97 ls [.int s0]) := by
  obtain ⟨hx, hb, hr, hml, hown, hts, hlocks, hK, hE, hlo, hlt⟩ := id C0
  unfold f_L_marks_97 at h
  refine lv_istore (lv' := [(8, .int s0), (0, .ref x0), (1, .int w1), (2, .int w2), (3, .long w3), (5, .int w5), (6, .int w6), (7, .int w7)]) hx hb dL_marks_97 hl (by decide) rfl (fun ls hl => ?_)
  refine lv_iload_n hx hb dL_marks_99 rfl (lv_at hl 3 rfl) ?_
  refine lv_if_eq (tgt := 117) hx hb dL_marks_100 (by decide) (fun c1 => ?_) (fun c1 => ?_)
  · have h := zip c1 h
    refine lv_iload_n hx hb dL_marks_117 rfl (lv_at hl 2 rfl) ?_
    refine lv_bipush (v := 6) hx hb dL_marks_118 (by decide) ?_
    refine lv_ishr hx hb dL_marks_120 ?_
    refine lv_iload hx hb dL_marks_121 (lv_at hl 7 rfl) ?_
    refine lv_iconst (v := 1) hx hb dL_marks_123 (by decide) ?_
    refine lv_iadd hx hb dL_marks_124 ?_
    obtain ⟨q2, e3, h⟩ := zb_some h
    refine y_calli hS (va_runS (As := [.int (w1 >>> ((6 : Int32) &&& 31)), .int (w7 + (1 : Int32))]) (rest := []) ⟨hx, hb, hml, hown, hts⟩ (m_L_some l hlt N hN (T := T) e3) (va_cwS 2 hts (gM_L_some wsM_up) rfl rfl rfl (by decide +kernel) ⟨Nat.le_of_ble_eq_true rfl, Nat.le_of_ble_eq_true rfl⟩) (y_preS hK hE hlo hW hS [.int (w1 >>> ((6 : Int32) &&& 31)), .int (w7 + (1 : Int32))]) rfl rfl hl.1 rfl (lv_room (Nat.le_of_ble_eq_true rfl)) dL_marks_125 ⟨by show c0 + 0 ≤ 4436; omega, by show 8 * (c0) + 0 ≤ 35488; omega⟩) (fun H locs hW hS => ?_)
    exact t_L_marks_128 C0 N hN (c0 := c0)  (by omega) h hW hS (lv_sub hl [1, 2, 3, 4, 5, 6, 7, 0] rfl)
  · have h := zin c1 h
    refine lv_iload_n hx hb dL_marks_103 rfl (lv_at hl 2 rfl) ?_
    refine lv_bipush (v := 6) hx hb dL_marks_104 (by decide) ?_
    refine lv_ishr hx hb dL_marks_106 ?_
    refine lv_bipush (v := 9) hx hb dL_marks_107 (by decide) ?_
    obtain ⟨q4, e5, h⟩ := zb_some h
    refine y_calli hS (va_runS (As := [.int (w1 >>> ((6 : Int32) &&& 31)), .int (9 : Int32)]) (rest := []) ⟨hx, hb, hml, hown, hts⟩ (m_L_some l hlt N hN (T := T) e5) (va_cwS 2 hts (gM_L_some wsM_up) rfl rfl rfl (by decide +kernel) ⟨Nat.le_of_ble_eq_true rfl, Nat.le_of_ble_eq_true rfl⟩) (y_preS hK hE hlo hW hS [.int (w1 >>> ((6 : Int32) &&& 31)), .int (9 : Int32)]) rfl rfl hl.1 rfl (lv_room (Nat.le_of_ble_eq_true rfl)) dL_marks_109 ⟨by show c0 + 0 ≤ 4436; omega, by show 8 * (c0) + 0 ≤ 35488; omega⟩) (fun H locs hW hS => ?_)
    refine lv_iconst (v := 1) hx hb dL_marks_112 (by decide) ?_
    refine lv_isub hx hb dL_marks_113 ?_
    refine lv_goto (tgt := 128) hx hb dL_marks_114 (by decide) ?_
    exact t_L_marks_128 C0 N hN (c0 := c0)  (by omega) h hW hS (lv_sub hl [1, 2, 3, 4, 5, 6, 7, 0] rfl)
noncomputable def f_L_marks_93 (N : Nat) (w1 : Int32) (w2 : Int32) (w3 : Int64) (w5 : Int32) (w6 : Int32) (w7 : Int32) (s0 : Int32) (s1 : Int32) (s2 : Int32) (T : yT) : Option (Int32 × yT) :=
(f_L_some N s1 s0).bind fun q1 => (
f_L_marks_97 N w1 w2 w3 w5 w6 w7 (s2 + q1) T)
set_option maxRecDepth 100000 in
set_option maxHeartbeats 8000000 in
theorem t_L_marks_93 {p : Program} {l : Launch} {e : Env} {s : State} {m : MethodId} {args : Array Value} {below : List Frame} {meth : Method} {c : Code} {D : va_G} {cy : Nat → ClassId} {x0 lo : Nat} (C0 : yCx p l s m c meth args cL_marks 16 wsM_marks RL (some .boolean) D cy lo) (N : Nat) (hN : 10000000 ≤ N) {c0 : Nat} {w1 : Int32} {w2 : Int32} {w3 : Int64} {w5 : Int32} {w6 : Int32} {w7 : Int32} {s0 : Int32} {s1 : Int32} {s2 : Int32} {T : yT} {r : Int32} {Tr : yT} (hc : c0 + 3334 ≤ 4436) (h : f_L_marks_93 N w1 w2 w3 w5 w6 w7 s0 s1 s2 T = some (r, Tr)) {H : Heap} {locs : List Loc} {ls : Array Slot} (hW : yWd D cy x0 lo T H) (hS : va_S (yA lo) s.heap H locs) (hl : lv_has ls 16 [(0, .ref x0), (1, .int w1), (2, .int w2), (3, .long w3), (5, .int w5), (6, .int w6), (7, .int w7)]) : W p l e (headSpec wsM_marks ({ frames := 19, cells := 4436, slots := 35488, locals := 494 } : Room)).room s m args below meth c H locs (c0) (8 * (c0)) (MQ below (yQi D cy x0 lo r Tr) args s 4436 35488 (yA lo)) (F0 m 93 ls [.int s0, .int s1, .int s2]) := by
  obtain ⟨hx, hb, hr, hml, hown, hts, hlocks, hK, hE, hlo, hlt⟩ := id C0
  unfold f_L_marks_93 at h
  obtain ⟨q1, e2, h⟩ := zb_some h
  refine y_calli hS (va_runS (As := [.int s1, .int s0]) (rest := [.int s2]) ⟨hx, hb, hml, hown, hts⟩ (m_L_some l hlt N hN (T := T) e2) (va_cwS 2 hts (gM_L_some wsM_up) rfl rfl rfl (by decide +kernel) ⟨Nat.le_of_ble_eq_true rfl, Nat.le_of_ble_eq_true rfl⟩) (y_preS hK hE hlo hW hS [.int s1, .int s0]) rfl rfl hl.1 rfl (lv_room (Nat.le_of_ble_eq_true rfl)) dL_marks_93 ⟨by show c0 + 0 ≤ 4436; omega, by show 8 * (c0) + 0 ≤ 35488; omega⟩) (fun H locs hW hS => ?_)
  refine lv_iadd hx hb dL_marks_96 ?_
  exact t_L_marks_97 C0 N hN (c0 := c0)  (by omega) h hW hS (lv_sub hl [0, 1, 2, 3, 4, 5, 6] rfl)
noncomputable def f_L_marks_58 (N : Nat) (w1 : Int32) (w2 : Int32) (w3 : Int64) (w5 : Int32) (w6 : Int32) (s0 : Int32) (T : yT) : Option (Int32 × yT) :=
(if w2 = 0 then
(if (1 : Int32) ≤ s0 then
f_L_marks_93 N w1 w2 w3 w5 w6 s0 s0 (w1 >>> ((3 : Int32) &&& 31)) (1 : Int32) T
else
f_L_marks_93 N w1 w2 w3 w5 w6 s0 (1 : Int32) (w1 >>> ((3 : Int32) &&& 31)) (1 : Int32) T)
else
(f_L_some N (w1 >>> ((3 : Int32) &&& 31)) (9 : Int32)).bind fun q3 => (
f_L_marks_97 N w1 w2 w3 w5 w6 s0 (q3 - (1 : Int32)) T))
set_option maxRecDepth 100000 in
set_option maxHeartbeats 8000000 in
theorem t_L_marks_58 {p : Program} {l : Launch} {e : Env} {s : State} {m : MethodId} {args : Array Value} {below : List Frame} {meth : Method} {c : Code} {D : va_G} {cy : Nat → ClassId} {x0 lo : Nat} (C0 : yCx p l s m c meth args cL_marks 16 wsM_marks RL (some .boolean) D cy lo) (N : Nat) (hN : 10000000 ≤ N) {c0 : Nat} {w1 : Int32} {w2 : Int32} {w3 : Int64} {w5 : Int32} {w6 : Int32} {s0 : Int32} {T : yT} {r : Int32} {Tr : yT} (hc : c0 + 3334 ≤ 4436) (h : f_L_marks_58 N w1 w2 w3 w5 w6 s0 T = some (r, Tr)) {H : Heap} {locs : List Loc} {ls : Array Slot} (hW : yWd D cy x0 lo T H) (hS : va_S (yA lo) s.heap H locs) (hl : lv_has ls 16 [(0, .ref x0), (1, .int w1), (2, .int w2), (3, .long w3), (5, .int w5), (6, .int w6)]) : W p l e (headSpec wsM_marks ({ frames := 19, cells := 4436, slots := 35488, locals := 494 } : Room)).room s m args below meth c H locs (c0) (8 * (c0)) (MQ below (yQi D cy x0 lo r Tr) args s 4436 35488 (yA lo)) (F0 m 58 ls [.int s0]) := by
  obtain ⟨hx, hb, hr, hml, hown, hts, hlocks, hK, hE, hlo, hlt⟩ := id C0
  unfold f_L_marks_58 at h
  refine lv_istore (lv' := [(7, .int s0), (0, .ref x0), (1, .int w1), (2, .int w2), (3, .long w3), (5, .int w5), (6, .int w6)]) hx hb dL_marks_58 hl (by decide) rfl (fun ls hl => ?_)
  refine lv_iload_n hx hb dL_marks_60 rfl (lv_at hl 3 rfl) ?_
  refine lv_if_eq (tgt := 77) hx hb dL_marks_61 (by decide) (fun c1 => ?_) (fun c1 => ?_)
  · have h := zip c1 h
    refine lv_iconst (v := 1) hx hb dL_marks_77 (by decide) ?_
    refine lv_iload_n hx hb dL_marks_78 rfl (lv_at hl 2 rfl) ?_
    refine lv_iconst (v := 3) hx hb dL_marks_79 (by decide) ?_
    refine lv_ishr hx hb dL_marks_80 ?_
    refine lv_iload hx hb dL_marks_81 (lv_at hl 0 rfl) ?_
    refine lv_iconst (v := 1) hx hb dL_marks_83 (by decide) ?_
    refine lv_icmp_ge (tgt := 91) hx hb dL_marks_84 (by decide) (fun c2 => ?_) (fun c2 => ?_)
    · have h := zip c2 h
      refine lv_iload hx hb dL_marks_91 (lv_at hl 0 rfl) ?_
      exact t_L_marks_93 C0 N hN (c0 := c0)  (by omega) h hW hS (lv_sub hl [1, 2, 3, 4, 5, 6, 0] rfl)
    · have h := zin c2 h
      refine lv_iconst (v := 1) hx hb dL_marks_87 (by decide) ?_
      refine lv_goto (tgt := 93) hx hb dL_marks_88 (by decide) ?_
      exact t_L_marks_93 C0 N hN (c0 := c0)  (by omega) h hW hS (lv_sub hl [1, 2, 3, 4, 5, 6, 0] rfl)
  · have h := zin c1 h
    refine lv_iload_n hx hb dL_marks_64 rfl (lv_at hl 2 rfl) ?_
    refine lv_iconst (v := 3) hx hb dL_marks_65 (by decide) ?_
    refine lv_ishr hx hb dL_marks_66 ?_
    refine lv_bipush (v := 9) hx hb dL_marks_67 (by decide) ?_
    obtain ⟨q3, e4, h⟩ := zb_some h
    refine y_calli hS (va_runS (As := [.int (w1 >>> ((3 : Int32) &&& 31)), .int (9 : Int32)]) (rest := []) ⟨hx, hb, hml, hown, hts⟩ (m_L_some l hlt N hN (T := T) e4) (va_cwS 2 hts (gM_L_some wsM_up) rfl rfl rfl (by decide +kernel) ⟨Nat.le_of_ble_eq_true rfl, Nat.le_of_ble_eq_true rfl⟩) (y_preS hK hE hlo hW hS [.int (w1 >>> ((3 : Int32) &&& 31)), .int (9 : Int32)]) rfl rfl hl.1 rfl (lv_room (Nat.le_of_ble_eq_true rfl)) dL_marks_69 ⟨by show c0 + 0 ≤ 4436; omega, by show 8 * (c0) + 0 ≤ 35488; omega⟩) (fun H locs hW hS => ?_)
    refine lv_iconst (v := 1) hx hb dL_marks_72 (by decide) ?_
    refine lv_isub hx hb dL_marks_73 ?_
    refine lv_goto (tgt := 97) hx hb dL_marks_74 (by decide) ?_
    exact t_L_marks_97 C0 N hN (c0 := c0)  (by omega) h hW hS (lv_sub hl [1, 2, 3, 4, 5, 6, 0] rfl)
noncomputable def f_L_marks_48 (N : Nat) (w1 : Int32) (w2 : Int32) (w3 : Int64) (w5 : Int32) (w6 : Int32) (T : yT) : Option (Int32 × yT) :=
f_L_marks_58 N w1 w2 w3 w5 w6 (2 : Int32) T
set_option maxRecDepth 100000 in
set_option maxHeartbeats 8000000 in
theorem t_L_marks_48 {p : Program} {l : Launch} {e : Env} {s : State} {m : MethodId} {args : Array Value} {below : List Frame} {meth : Method} {c : Code} {D : va_G} {cy : Nat → ClassId} {x0 lo : Nat} (C0 : yCx p l s m c meth args cL_marks 16 wsM_marks RL (some .boolean) D cy lo) (N : Nat) (hN : 10000000 ≤ N) {c0 : Nat} {w1 : Int32} {w2 : Int32} {w3 : Int64} {w5 : Int32} {w6 : Int32} {T : yT} {r : Int32} {Tr : yT} (hc : c0 + 3334 ≤ 4436) (h : f_L_marks_48 N w1 w2 w3 w5 w6 T = some (r, Tr)) {H : Heap} {locs : List Loc} {ls : Array Slot} (hW : yWd D cy x0 lo T H) (hS : va_S (yA lo) s.heap H locs) (hl : lv_has ls 16 [(0, .ref x0), (1, .int w1), (2, .int w2), (3, .long w3), (5, .int w5), (6, .int w6)]) : W p l e (headSpec wsM_marks ({ frames := 19, cells := 4436, slots := 35488, locals := 494 } : Room)).room s m args below meth c H locs (c0) (8 * (c0)) (MQ below (yQi D cy x0 lo r Tr) args s 4436 35488 (yA lo)) (F0 m 48 ls []) := by
  obtain ⟨hx, hb, hr, hml, hown, hts, hlocks, hK, hE, hlo, hlt⟩ := id C0
  unfold f_L_marks_48 at h
  refine lv_iconst (v := 2) hx hb dL_marks_48 (by decide) ?_
  refine lv_goto (tgt := 58) hx hb dL_marks_49 (by decide) ?_
  exact t_L_marks_58 C0 N hN (c0 := c0)  (by omega) h hW hS (lv_sub hl [0, 1, 2, 3, 4, 5] rfl)
noncomputable def f_L_marks_34 (N : Nat) (w1 : Int32) (w2 : Int32) (w3 : Int64) (w5 : Int32) (s0 : Int32) (T : yT) : Option (Int32 × yT) :=
(if s0 < 0 then
f_L_marks_48 N w1 w2 w3 w5 s0 T
else
(if s0 < w5 then
zbp (y_X6_words T s0) fun q3 T5 => (
zx q3 (fun _ => none) fun r6 => (
f_L_marks_58 N w1 w2 w3 w5 s0 r6 T5))
else
f_L_marks_48 N w1 w2 w3 w5 s0 T))
set_option maxRecDepth 100000 in
set_option maxHeartbeats 8000000 in
theorem t_L_marks_34 {p : Program} {l : Launch} {e : Env} {s : State} {m : MethodId} {args : Array Value} {below : List Frame} {meth : Method} {c : Code} {D : va_G} {cy : Nat → ClassId} {x0 lo : Nat} (C0 : yCx p l s m c meth args cL_marks 16 wsM_marks RL (some .boolean) D cy lo) (N : Nat) (hN : 10000000 ≤ N) {c0 : Nat} {w1 : Int32} {w2 : Int32} {w3 : Int64} {w5 : Int32} {s0 : Int32} {T : yT} {r : Int32} {Tr : yT} (hc : c0 + 3335 ≤ 4436) (h : f_L_marks_34 N w1 w2 w3 w5 s0 T = some (r, Tr)) {H : Heap} {locs : List Loc} {ls : Array Slot} (hW : yWd D cy x0 lo T H) (hS : va_S (yA lo) s.heap H locs) (hl : lv_has ls 16 [(0, .ref x0), (1, .int w1), (2, .int w2), (3, .long w3), (5, .int w5)]) : W p l e (headSpec wsM_marks ({ frames := 19, cells := 4436, slots := 35488, locals := 494 } : Room)).room s m args below meth c H locs (c0) (8 * (c0)) (MQ below (yQi D cy x0 lo r Tr) args s 4436 35488 (yA lo)) (F0 m 34 ls [.int s0]) := by
  obtain ⟨hx, hb, hr, hml, hown, hts, hlocks, hK, hE, hlo, hlt⟩ := id C0
  unfold f_L_marks_34 at h
  refine lv_istore (lv' := [(6, .int s0), (0, .ref x0), (1, .int w1), (2, .int w2), (3, .long w3), (5, .int w5)]) hx hb dL_marks_34 hl (by decide) rfl (fun ls hl => ?_)
  refine lv_iload hx hb dL_marks_36 (lv_at hl 0 rfl) ?_
  refine lv_if_lt (tgt := 48) hx hb dL_marks_38 (by decide) (fun c1 => ?_) (fun c1 => ?_)
  · have h := zip c1 h
    exact t_L_marks_48 C0 N hN (c0 := c0)  (by omega) h hW hS (lv_sub hl [1, 2, 3, 4, 5, 0] rfl)
  · have h := zin c1 h
    refine lv_iload hx hb dL_marks_41 (lv_at hl 0 rfl) ?_
    refine lv_iload hx hb dL_marks_43 (lv_at hl 5 rfl) ?_
    refine lv_icmp_lt (tgt := 52) hx hb dL_marks_45 (by decide) (fun c2 => ?_) (fun c2 => ?_)
    · have h := zip c2 h
      refine lv_aload_n hx hb dL_marks_52 rfl (lv_at hl 1 rfl) ?_
      refine lv_iload hx hb dL_marks_53 (lv_at hl 0 rfl) ?_
      obtain ⟨q3, T5, e4, h⟩ := zbp_some h
      refine y_xcalli hS (vx_runV (As := [.int s0]) (rest := []) ⟨hx, hb, hml, hown, hts⟩ (n_X6_words l hlt N hN e4) (cwV 1 hts (gM_X6_words wsM_up) rfl rfl rfl (by decide +kernel) ⟨Nat.le_of_ble_eq_true rfl, Nat.le_of_ble_eq_true rfl⟩) (y_preV hK hE hlo hW hS [.int s0]) rfl rfl hl.1 rfl (lv_room (Nat.le_of_ble_eq_true rfl)) dL_marks_55 ⟨by show c0 + 1 ≤ 4436; omega, by show 8 * (c0) + 6 ≤ 35488; omega⟩) (fun k hk H locs q9 ce hW hS hce hcv hcl => by subst hk; cases (show (none : Option (Int32 × yT)) = some (r, Tr) from zx_l h)) (fun r6 hk H locs hW hS => ?_)
      subst hk
      have h := zx_r h
      refine W.widen (k := c0 + 1) (n := 8 * (c0 + 1)) (by omega) (by omega) ?_
      exact t_L_marks_58 C0 N hN (c0 := c0 + 1)  (by omega) h hW hS (lv_sub hl [1, 2, 3, 4, 5, 0] rfl)
    · have h := zin c2 h
      exact t_L_marks_48 C0 N hN (c0 := c0)  (by omega) h hW hS (lv_sub hl [1, 2, 3, 4, 5, 0] rfl)
noncomputable def f_L_marks_0 (N : Nat) (w1 : Int32) (w2 : Int32) (T : yT) : Option (Int32 × yT) :=
zbp (f_L_all N T) fun q1 T3 => (
zbp (y_X6_sentences T3) fun q4 T6 => (
zx q4 (fun _ => none) fun r7 => (
(if w2 = 0 then
(f_L_some N w1 r7).bind fun q9 => (
f_L_marks_34 N w1 w2 q1 r7 q9 T6)
else
(f_L_some N w1 (r7 + (2 : Int32))).bind fun q11 => (
f_L_marks_34 N w1 w2 q1 r7 (q11 - (1 : Int32)) T6)))))
set_option maxRecDepth 100000 in
set_option maxHeartbeats 8000000 in
theorem t_L_marks_0 {p : Program} {l : Launch} {e : Env} {s : State} {m : MethodId} {args : Array Value} {below : List Frame} {meth : Method} {c : Code} {D : va_G} {cy : Nat → ClassId} {x0 lo : Nat} (C0 : yCx p l s m c meth args cL_marks 16 wsM_marks RL (some .boolean) D cy lo) (N : Nat) (hN : 10000000 ≤ N) {c0 : Nat} {w1 : Int32} {w2 : Int32} {T : yT} {r : Int32} {Tr : yT} (hc : c0 + 4436 ≤ 4436) (h : f_L_marks_0 N w1 w2 T = some (r, Tr)) {H : Heap} {locs : List Loc} {ls : Array Slot} (hW : yWd D cy x0 lo T H) (hS : va_S (yA lo) s.heap H locs) (hl : lv_has ls 16 [(0, .ref x0), (1, .int w1), (2, .int w2)]) : W p l e (headSpec wsM_marks ({ frames := 19, cells := 4436, slots := 35488, locals := 494 } : Room)).room s m args below meth c H locs (c0) (8 * (c0)) (MQ below (yQi D cy x0 lo r Tr) args s 4436 35488 (yA lo)) (F0 m 0 ls []) := by
  obtain ⟨hx, hb, hr, hml, hown, hts, hlocks, hK, hE, hlo, hlt⟩ := id C0
  unfold f_L_marks_0 at h
  refine lv_aload_n hx hb dL_marks_0 rfl (lv_at hl 0 rfl) ?_
  obtain ⟨q1, T3, e2, h⟩ := zbp_some h
  refine y_calll hS (va_runS (As := [.ref x0]) (rest := []) ⟨hx, hb, hml, hown, hts⟩ (m_L_all l hlt N hN e2) (va_cwS 1 hts (gM_L_all wsM_up) rfl rfl rfl (by decide +kernel) ⟨Nat.le_of_ble_eq_true rfl, Nat.le_of_ble_eq_true rfl⟩) (y_preS hK hE hlo hW hS [.ref x0]) rfl rfl hl.1 rfl (lv_room (Nat.le_of_ble_eq_true rfl)) dL_marks_1 ⟨by show c0 + 1101 ≤ 4436; omega, by show 8 * (c0) + 8808 ≤ 35488; omega⟩) (fun H locs hW hS => ?_)
  refine W.widen (k := c0 + 1101) (n := 8 * (c0 + 1101)) (by omega) (by omega) ?_
  refine lv_lstore_n (lv' := [(3, .long q1), (0, .ref x0), (1, .int w1), (2, .int w2)]) hx hb dL_marks_4 rfl hl (by decide) rfl (fun ls hl => ?_)
  refine lv_aload_n hx hb dL_marks_5 rfl (lv_at hl 1 rfl) ?_
  obtain ⟨q4, T6, e5, h⟩ := zbp_some h
  refine y_xcalli hS (vx_runV (As := []) (rest := []) ⟨hx, hb, hml, hown, hts⟩ (n_X6_sentences l hlt N hN e5) (cwV 0 hts (gM_X6_sentences wsM_up) rfl rfl rfl (by decide +kernel) ⟨Nat.le_of_ble_eq_true rfl, Nat.le_of_ble_eq_true rfl⟩) (y_preV hK hE hlo hW hS []) rfl rfl hl.1 rfl (lv_room (Nat.le_of_ble_eq_true rfl)) dL_marks_6 ⟨by show c0 + 1101 + 0 ≤ 4436; omega, by show 8 * (c0 + 1101) + 0 ≤ 35488; omega⟩) (fun k hk H locs q9 ce hW hS hce hcv hcl => by subst hk; cases (show (none : Option (Int32 × yT)) = some (r, Tr) from zx_l h)) (fun r7 hk H locs hW hS => ?_)
  subst hk
  have h := zx_r h
  refine lv_istore (lv' := [(5, .int r7), (3, .long q1), (0, .ref x0), (1, .int w1), (2, .int w2)]) hx hb dL_marks_9 hl (by decide) rfl (fun ls hl => ?_)
  refine lv_iload_n hx hb dL_marks_11 rfl (lv_at hl 4 rfl) ?_
  refine lv_if_eq (tgt := 28) hx hb dL_marks_12 (by decide) (fun c8 => ?_) (fun c8 => ?_)
  · have h := zip c8 h
    refine lv_iload_n hx hb dL_marks_28 rfl (lv_at hl 3 rfl) ?_
    refine lv_iload hx hb dL_marks_29 (lv_at hl 0 rfl) ?_
    obtain ⟨q9, e10, h⟩ := zb_some h
    refine y_calli hS (va_runS (As := [.int w1, .int r7]) (rest := []) ⟨hx, hb, hml, hown, hts⟩ (m_L_some l hlt N hN (T := T6) e10) (va_cwS 2 hts (gM_L_some wsM_up) rfl rfl rfl (by decide +kernel) ⟨Nat.le_of_ble_eq_true rfl, Nat.le_of_ble_eq_true rfl⟩) (y_preS hK hE hlo hW hS [.int w1, .int r7]) rfl rfl hl.1 rfl (lv_room (Nat.le_of_ble_eq_true rfl)) dL_marks_31 ⟨by show c0 + 1101 + 0 ≤ 4436; omega, by show 8 * (c0 + 1101) + 0 ≤ 35488; omega⟩) (fun H locs hW hS => ?_)
    exact t_L_marks_34 C0 N hN (c0 := c0 + 1101)  (by omega) h hW hS (lv_sub hl [2, 3, 4, 1, 0] rfl)
  · have h := zin c8 h
    refine lv_iload_n hx hb dL_marks_15 rfl (lv_at hl 3 rfl) ?_
    refine lv_iload hx hb dL_marks_16 (lv_at hl 0 rfl) ?_
    refine lv_iconst (v := 2) hx hb dL_marks_18 (by decide) ?_
    refine lv_iadd hx hb dL_marks_19 ?_
    obtain ⟨q11, e12, h⟩ := zb_some h
    refine y_calli hS (va_runS (As := [.int w1, .int (r7 + (2 : Int32))]) (rest := []) ⟨hx, hb, hml, hown, hts⟩ (m_L_some l hlt N hN (T := T6) e12) (va_cwS 2 hts (gM_L_some wsM_up) rfl rfl rfl (by decide +kernel) ⟨Nat.le_of_ble_eq_true rfl, Nat.le_of_ble_eq_true rfl⟩) (y_preS hK hE hlo hW hS [.int w1, .int (r7 + (2 : Int32))]) rfl rfl hl.1 rfl (lv_room (Nat.le_of_ble_eq_true rfl)) dL_marks_20 ⟨by show c0 + 1101 + 0 ≤ 4436; omega, by show 8 * (c0 + 1101) + 0 ≤ 35488; omega⟩) (fun H locs hW hS => ?_)
    refine lv_iconst (v := 1) hx hb dL_marks_23 (by decide) ?_
    refine lv_isub hx hb dL_marks_24 ?_
    refine lv_goto (tgt := 34) hx hb dL_marks_25 (by decide) ?_
    exact t_L_marks_34 C0 N hN (c0 := c0 + 1101)  (by omega) h hW hS (lv_sub hl [2, 3, 4, 1, 0] rfl)
noncomputable def f_L_marks (N : Nat) (T : yT) (a1 : Int32) (a2 : Int32) : Option (Int32 × yT) := f_L_marks_0 N a1 a2 T
set_option maxRecDepth 100000 in
set_option maxHeartbeats 8000000 in
theorem m_L_marks (l : Launch) (hlt : l.stackTraces = false) (N : Nat) (hN : 10000000 ≤ N) {D : va_G} {cy : Nat → ClassId} {x0 lo : Nat} {T : yT} {a1 : Int32} {a2 : Int32} {r : Int32} {Tr : yT} (h : f_L_marks N T a1 a2 = some (r, Tr)) : Met l yL_marks wsM_marks ({ frames := 19, cells := 4436, slots := 35488, locals := 494 } : Room) (yPre D cy x0 lo [.ref x0, .int a1, .int a2] T) (yQi D cy x0 lo r Tr) 4436 35488 (yA lo) :=
  y_entry hlt (av := [.ref x0, .int a1, .int a2]) (by decide) rfl rfl (Nat.le_of_ble_eq_true rfl) (fun p e s m args below meth c C0 H locs ls hW hS hl => t_L_marks_0 C0 N hN (c0 := 0) (by decide) h hW hS (lv_sub hl [0, 1, 2] rfl))

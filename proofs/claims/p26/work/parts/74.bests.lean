/-! bests (by program: wip/p26/gen/geny.py). -/
noncomputable def f_L_bests_546 (N : Nat) (s0 : Int32) (T : yT) : Option (Int32 × yT) :=
zg (zbo s0) (
some (s0, T))
set_option maxRecDepth 100000 in
set_option maxHeartbeats 8000000 in
theorem t_L_bests_546 {p : Program} {l : Launch} {e : Env} {s : State} {m : MethodId} {args : Array Value} {below : List Frame} {meth : Method} {c : Code} {D : va_G} {cy : Nat → ClassId} {x0 lo : Nat} (C0 : yCx p l s m c meth args cL_bests 11 wsM_bests RL (some .boolean) D cy lo) (N : Nat) (hN : 10000000 ≤ N) {c0 : Nat} {s0 : Int32} {T : yT} {r : Int32} {Tr : yT} (hc : c0 + 0 ≤ 434) (h : f_L_bests_546 N s0 T = some (r, Tr)) {H : Heap} {locs : List Loc} {ls : Array Slot} (hW : yWd D cy x0 lo T H) (hS : va_S (yA lo) s.heap H locs) (hl : lv_has ls 11 []) : W p l e (headSpec wsM_bests ({ frames := 18, cells := 434, slots := 3472, locals := 470 } : Room)).room s m args below meth c H locs (c0) (8 * (c0)) (MQ below (yQi D cy x0 lo r Tr) args s 434 3472 (yA lo)) (F0 m 546 ls [.int s0]) := by
  obtain ⟨hx, hb, hr, hml, hown, hts, hlocks, hK, hE, hlo, hlt⟩ := id C0
  unfold f_L_bests_546 at h
  obtain ⟨g1, h⟩ := zg_some h
  exact y_zret hx hb hr hlocks hW hS g1 (congrArg Prod.fst (Option.some.inj h)) (congrArg Prod.snd (Option.some.inj h)) dL_bests_546 (by omega) (by omega)
noncomputable def f_L_bests_545 (N : Nat) (T : yT) : Option (Int32 × yT) :=
f_L_bests_546 N (0 : Int32) T
set_option maxRecDepth 100000 in
set_option maxHeartbeats 8000000 in
theorem t_L_bests_545 {p : Program} {l : Launch} {e : Env} {s : State} {m : MethodId} {args : Array Value} {below : List Frame} {meth : Method} {c : Code} {D : va_G} {cy : Nat → ClassId} {x0 lo : Nat} (C0 : yCx p l s m c meth args cL_bests 11 wsM_bests RL (some .boolean) D cy lo) (N : Nat) (hN : 10000000 ≤ N) {c0 : Nat} {T : yT} {r : Int32} {Tr : yT} (hc : c0 + 0 ≤ 434) (h : f_L_bests_545 N T = some (r, Tr)) {H : Heap} {locs : List Loc} {ls : Array Slot} (hW : yWd D cy x0 lo T H) (hS : va_S (yA lo) s.heap H locs) (hl : lv_has ls 11 []) : W p l e (headSpec wsM_bests ({ frames := 18, cells := 434, slots := 3472, locals := 470 } : Room)).room s m args below meth c H locs (c0) (8 * (c0)) (MQ below (yQi D cy x0 lo r Tr) args s 434 3472 (yA lo)) (F0 m 545 ls []) := by
  obtain ⟨hx, hb, hr, hml, hown, hts, hlocks, hK, hE, hlo, hlt⟩ := id C0
  unfold f_L_bests_545 at h
  refine lv_iconst (v := 0) hx hb dL_bests_545 (by decide) ?_
  exact t_L_bests_546 C0 N hN (c0 := c0)  (by omega) h hW hS (lv_sub hl [] rfl)
noncomputable def f_L_bests_541 (N : Nat) (T : yT) : Option (Int32 × yT) :=
f_L_bests_546 N (1 : Int32) T
set_option maxRecDepth 100000 in
set_option maxHeartbeats 8000000 in
theorem t_L_bests_541 {p : Program} {l : Launch} {e : Env} {s : State} {m : MethodId} {args : Array Value} {below : List Frame} {meth : Method} {c : Code} {D : va_G} {cy : Nat → ClassId} {x0 lo : Nat} (C0 : yCx p l s m c meth args cL_bests 11 wsM_bests RL (some .boolean) D cy lo) (N : Nat) (hN : 10000000 ≤ N) {c0 : Nat} {T : yT} {r : Int32} {Tr : yT} (hc : c0 + 0 ≤ 434) (h : f_L_bests_541 N T = some (r, Tr)) {H : Heap} {locs : List Loc} {ls : Array Slot} (hW : yWd D cy x0 lo T H) (hS : va_S (yA lo) s.heap H locs) (hl : lv_has ls 11 []) : W p l e (headSpec wsM_bests ({ frames := 18, cells := 434, slots := 3472, locals := 470 } : Room)).room s m args below meth c H locs (c0) (8 * (c0)) (MQ below (yQi D cy x0 lo r Tr) args s 434 3472 (yA lo)) (F0 m 541 ls []) := by
  obtain ⟨hx, hb, hr, hml, hown, hts, hlocks, hK, hE, hlo, hlt⟩ := id C0
  unfold f_L_bests_541 at h
  refine lv_iconst (v := 1) hx hb dL_bests_541 (by decide) ?_
  refine lv_goto (tgt := 546) hx hb dL_bests_542 (by decide) ?_
  exact t_L_bests_546 C0 N hN (c0 := c0)  (by omega) h hW hS (lv_sub hl [] rfl)
noncomputable def f_L_bests_531 (N : Nat) (w1 : Int32) (w4 : Int32) (T : yT) : Option (Int32 × yT) :=
zbp (y_X6_matched T w1) fun q1 T3 => (
zx q1 (fun _ => none) fun r4 => (
(if w4 < r4 then
f_L_bests_545 N T3
else
f_L_bests_541 N T3)))
set_option maxRecDepth 100000 in
set_option maxHeartbeats 8000000 in
theorem t_L_bests_531 {p : Program} {l : Launch} {e : Env} {s : State} {m : MethodId} {args : Array Value} {below : List Frame} {meth : Method} {c : Code} {D : va_G} {cy : Nat → ClassId} {x0 lo : Nat} (C0 : yCx p l s m c meth args cL_bests 11 wsM_bests RL (some .boolean) D cy lo) (N : Nat) (hN : 10000000 ≤ N) {c0 : Nat} {w1 : Int32} {w4 : Int32} {T : yT} {r : Int32} {Tr : yT} (hc : c0 + 2 ≤ 434) (h : f_L_bests_531 N w1 w4 T = some (r, Tr)) {H : Heap} {locs : List Loc} {ls : Array Slot} (hW : yWd D cy x0 lo T H) (hS : va_S (yA lo) s.heap H locs) (hl : lv_has ls 11 [(0, .ref x0), (1, .int w1), (4, .int w4)]) : W p l e (headSpec wsM_bests ({ frames := 18, cells := 434, slots := 3472, locals := 470 } : Room)).room s m args below meth c H locs (c0) (8 * (c0)) (MQ below (yQi D cy x0 lo r Tr) args s 434 3472 (yA lo)) (F0 m 531 ls []) := by
  obtain ⟨hx, hb, hr, hml, hown, hts, hlocks, hK, hE, hlo, hlt⟩ := id C0
  unfold f_L_bests_531 at h
  refine lv_aload_n hx hb dL_bests_531 rfl (lv_at hl 0 rfl) ?_
  refine lv_iload_n hx hb dL_bests_532 rfl (lv_at hl 1 rfl) ?_
  obtain ⟨q1, T3, e2, h⟩ := zbp_some h
  refine y_xcalli hS (vx_runV (As := [.int w1]) (rest := []) ⟨hx, hb, hml, hown, hts⟩ (n_X6_matched l hlt N hN e2) (cwV 1 hts (gM_X6_matched wsM_up) rfl rfl rfl (by decide +kernel) ⟨Nat.le_of_ble_eq_true rfl, Nat.le_of_ble_eq_true rfl⟩) (y_preV hK hE hlo hW hS [.int w1]) rfl rfl hl.1 rfl (lv_room (Nat.le_of_ble_eq_true rfl)) dL_bests_533 ⟨by show c0 + 2 ≤ 434; omega, by show 8 * (c0) + 12 ≤ 3472; omega⟩) (fun k hk H locs q9 ce hW hS hce hcv hcl => by subst hk; cases (show (none : Option (Int32 × yT)) = some (r, Tr) from zx_l h)) (fun r4 hk H locs hW hS => ?_)
  subst hk
  have h := zx_r h
  refine W.widen (k := c0 + 2) (n := 8 * (c0 + 2)) (by omega) (by omega) ?_
  refine lv_iload hx hb dL_bests_536 (lv_at hl 2 rfl) ?_
  refine lv_icmp_gt (tgt := 545) hx hb dL_bests_538 (by decide) (fun c5 => ?_) (fun c5 => ?_)
  · have h := zip c5 h
    exact t_L_bests_545 C0 N hN (c0 := c0 + 2)  (by omega) h hW hS (lv_sub hl [] rfl)
  · have h := zin c5 h
    exact t_L_bests_541 C0 N hN (c0 := c0 + 2)  (by omega) h hW hS (lv_sub hl [] rfl)
noncomputable def f_L_bests_454 (N : Nat) (w1 : Int32) (w3 : Int32) (w4 : Int32) (T : yT) : Option (Int32 × yT) :=
zbp (f_L_call N T (13 : Int32) w1 (0 : Int32) (0 : Int32) (0 : Int32)) fun q1 T3 => (
(if w3 = 0 then
f_L_bests_545 N T3
else
zbp (y_X6_trees T3 w1 (1 : Int32)) fun q5 T7 => (
zx q5 (fun _ => none) fun r8 => (
(if r8 = 0 then
(if q1 = (-8003 : Int32) then
zbp (f_L_call N T7 (16 : Int32) w1 (0 : Int32) (0 : Int32) (0 : Int32)) fun q22 T24 => (
(if q22 = (-8003 : Int32) then
f_L_bests_541 N T24
else
f_L_bests_545 N T24))
else
f_L_bests_545 N T7)
else
(if q1 < 0 then
f_L_bests_545 N T7
else
(if (0 : Int32) < q1 then
f_L_bests_531 N w1 w4 T7
else
zbp (y_X6_best T7 w1 (0 : Int32)) fun q12 T14 => (
zx q12 (fun _ => none) fun r15 => (
zbp (y_X6_best T14 w1 (1 : Int32)) fun q16 T18 => (
zx q16 (fun _ => none) fun r19 => (
(if r15 = r19 then
f_L_bests_531 N w1 w4 T18
else
f_L_bests_545 N T18))))))))))))
set_option maxRecDepth 100000 in
set_option maxHeartbeats 8000000 in
theorem t_L_bests_454 {p : Program} {l : Launch} {e : Env} {s : State} {m : MethodId} {args : Array Value} {below : List Frame} {meth : Method} {c : Code} {D : va_G} {cy : Nat → ClassId} {x0 lo : Nat} (C0 : yCx p l s m c meth args cL_bests 11 wsM_bests RL (some .boolean) D cy lo) (N : Nat) (hN : 10000000 ≤ N) {c0 : Nat} {w1 : Int32} {w3 : Int32} {w4 : Int32} {T : yT} {r : Int32} {Tr : yT} (hc : c0 + 23 ≤ 434) (h : f_L_bests_454 N w1 w3 w4 T = some (r, Tr)) {H : Heap} {locs : List Loc} {ls : Array Slot} (hW : yWd D cy x0 lo T H) (hS : va_S (yA lo) s.heap H locs) (hl : lv_has ls 11 [(0, .ref x0), (1, .int w1), (3, .int w3), (4, .int w4)]) : W p l e (headSpec wsM_bests ({ frames := 18, cells := 434, slots := 3472, locals := 470 } : Room)).room s m args below meth c H locs (c0) (8 * (c0)) (MQ below (yQi D cy x0 lo r Tr) args s 434 3472 (yA lo)) (F0 m 454 ls []) := by
  obtain ⟨hx, hb, hr, hml, hown, hts, hlocks, hK, hE, hlo, hlt⟩ := id C0
  unfold f_L_bests_454 at h
  refine lv_aload_n hx hb dL_bests_454 rfl (lv_at hl 0 rfl) ?_
  refine lv_bipush (v := 13) hx hb dL_bests_455 (by decide) ?_
  refine lv_iload_n hx hb dL_bests_457 rfl (lv_at hl 1 rfl) ?_
  refine lv_iconst (v := 0) hx hb dL_bests_458 (by decide) ?_
  refine lv_iconst (v := 0) hx hb dL_bests_459 (by decide) ?_
  refine lv_iconst (v := 0) hx hb dL_bests_460 (by decide) ?_
  obtain ⟨q1, T3, e2, h⟩ := zbp_some h
  refine y_calli hS (vx_runSW (As := [.ref x0, .int (13 : Int32), .int w1, .int (0 : Int32), .int (0 : Int32), .int (0 : Int32)]) (rest := []) ⟨hx, hb, hml, hown, hts⟩ (m_L_call l hlt N hN e2) (vx_cwSW (hh := [(0, 11, 12, 14), (0, 11, 18, 16), (0, 11, 24, 18)]) 6 hts (gM_L_call wsM_up) rfl rfl rfl (by decide +kernel) ⟨Nat.le_of_ble_eq_true rfl, Nat.le_of_ble_eq_true rfl⟩) (y_preS hK hE hlo hW hS [.ref x0, .int (13 : Int32), .int w1, .int (0 : Int32), .int (0 : Int32), .int (0 : Int32)]) rfl rfl hl.1 rfl (lv_room (Nat.le_of_ble_eq_true rfl)) dL_bests_461 ⟨by show c0 + 11 ≤ 434; omega, by show 8 * (c0) + 88 ≤ 3472; omega⟩) (fun H locs hW hS => ?_)
  refine W.widen (k := c0 + 11) (n := 8 * (c0 + 11)) (by omega) (by omega) ?_
  refine lv_istore (lv' := [(5, .int q1), (0, .ref x0), (1, .int w1), (3, .int w3), (4, .int w4)]) hx hb dL_bests_464 hl (by decide) rfl (fun ls hl => ?_)
  refine lv_iload_n hx hb dL_bests_466 rfl (lv_at hl 3 rfl) ?_
  refine lv_if_eq (tgt := 545) hx hb dL_bests_467 (by decide) (fun c4 => ?_) (fun c4 => ?_)
  · have h := zip c4 h
    exact t_L_bests_545 C0 N hN (c0 := c0 + 11)  (by omega) h hW hS (lv_sub hl [] rfl)
  · have h := zin c4 h
    refine lv_aload_n hx hb dL_bests_470 rfl (lv_at hl 1 rfl) ?_
    refine lv_iload_n hx hb dL_bests_471 rfl (lv_at hl 2 rfl) ?_
    refine lv_iconst (v := 1) hx hb dL_bests_472 (by decide) ?_
    obtain ⟨q5, T7, e6, h⟩ := zbp_some h
    refine y_xcalli hS (vx_runV (As := [.int w1, .int (1 : Int32)]) (rest := []) ⟨hx, hb, hml, hown, hts⟩ (n_X6_trees l hlt N hN e6) (cwV 2 hts (gM_X6_trees wsM_up) rfl rfl rfl (by decide +kernel) ⟨Nat.le_of_ble_eq_true rfl, Nat.le_of_ble_eq_true rfl⟩) (y_preV hK hE hlo hW hS [.int w1, .int (1 : Int32)]) rfl rfl hl.1 rfl (lv_room (Nat.le_of_ble_eq_true rfl)) dL_bests_473 ⟨by show c0 + 11 + 1 ≤ 434; omega, by show 8 * (c0 + 11) + 6 ≤ 3472; omega⟩) (fun k hk H locs q9 ce hW hS hce hcv hcl => by subst hk; cases (show (none : Option (Int32 × yT)) = some (r, Tr) from zx_l h)) (fun r8 hk H locs hW hS => ?_)
    subst hk
    have h := zx_r h
    refine W.widen (k := c0 + 12) (n := 8 * (c0 + 12)) (by omega) (by omega) ?_
    refine lv_if_ne (tgt := 506) hx hb dL_bests_476 (by decide) (fun c9 => ?_) (fun c9 => ?_)
    · have h := zin c9 h
      refine lv_iload hx hb dL_bests_506 (lv_at hl 0 rfl) ?_
      refine lv_if_lt (tgt := 545) hx hb dL_bests_508 (by decide) (fun c10 => ?_) (fun c10 => ?_)
      · have h := zip c10 h
        exact t_L_bests_545 C0 N hN (c0 := c0 + 12)  (by omega) h hW hS (lv_sub hl [] rfl)
      · have h := zin c10 h
        refine lv_iload hx hb dL_bests_511 (lv_at hl 0 rfl) ?_
        refine lv_if_gt (tgt := 531) hx hb dL_bests_513 (by decide) (fun c11 => ?_) (fun c11 => ?_)
        · have h := zip c11 h
          exact t_L_bests_531 C0 N hN (c0 := c0 + 12)  (by omega) h hW hS (lv_sub hl [1, 2, 4] rfl)
        · have h := zin c11 h
          refine lv_aload_n hx hb dL_bests_516 rfl (lv_at hl 1 rfl) ?_
          refine lv_iload_n hx hb dL_bests_517 rfl (lv_at hl 2 rfl) ?_
          refine lv_iconst (v := 0) hx hb dL_bests_518 (by decide) ?_
          obtain ⟨q12, T14, e13, h⟩ := zbp_some h
          refine y_xcalli hS (vx_runV (As := [.int w1, .int (0 : Int32)]) (rest := []) ⟨hx, hb, hml, hown, hts⟩ (n_X6_best l hlt N hN e13) (cwV 2 hts (gM_X6_best wsM_up) rfl rfl rfl (by decide +kernel) ⟨Nat.le_of_ble_eq_true rfl, Nat.le_of_ble_eq_true rfl⟩) (y_preV hK hE hlo hW hS [.int w1, .int (0 : Int32)]) rfl rfl hl.1 rfl (lv_room (Nat.le_of_ble_eq_true rfl)) dL_bests_519 ⟨by show c0 + 12 + 2 ≤ 434; omega, by show 8 * (c0 + 12) + 12 ≤ 3472; omega⟩) (fun k hk H locs q9 ce hW hS hce hcv hcl => by subst hk; cases (show (none : Option (Int32 × yT)) = some (r, Tr) from zx_l h)) (fun r15 hk H locs hW hS => ?_)
          subst hk
          have h := zx_r h
          refine W.widen (k := c0 + 14) (n := 8 * (c0 + 14)) (by omega) (by omega) ?_
          refine lv_aload_n hx hb dL_bests_522 rfl (lv_at hl 1 rfl) ?_
          refine lv_iload_n hx hb dL_bests_523 rfl (lv_at hl 2 rfl) ?_
          refine lv_iconst (v := 1) hx hb dL_bests_524 (by decide) ?_
          obtain ⟨q16, T18, e17, h⟩ := zbp_some h
          refine y_xcalli hS (vx_runV (As := [.int w1, .int (1 : Int32)]) (rest := [.int r15]) ⟨hx, hb, hml, hown, hts⟩ (n_X6_best l hlt N hN e17) (cwV 2 hts (gM_X6_best wsM_up) rfl rfl rfl (by decide +kernel) ⟨Nat.le_of_ble_eq_true rfl, Nat.le_of_ble_eq_true rfl⟩) (y_preV hK hE hlo hW hS [.int w1, .int (1 : Int32)]) rfl rfl hl.1 rfl (lv_room (Nat.le_of_ble_eq_true rfl)) dL_bests_525 ⟨by show c0 + 14 + 2 ≤ 434; omega, by show 8 * (c0 + 14) + 12 ≤ 3472; omega⟩) (fun k hk H locs q9 ce hW hS hce hcv hcl => by subst hk; cases (show (none : Option (Int32 × yT)) = some (r, Tr) from zx_l h)) (fun r19 hk H locs hW hS => ?_)
          subst hk
          have h := zx_r h
          refine W.widen (k := c0 + 16) (n := 8 * (c0 + 16)) (by omega) (by omega) ?_
          refine lv_icmp_ne (tgt := 545) hx hb dL_bests_528 (by decide) (fun c20 => ?_) (fun c20 => ?_)
          · have h := zin c20 h
            exact t_L_bests_545 C0 N hN (c0 := c0 + 16)  (by omega) h hW hS (lv_sub hl [] rfl)
          · have h := zip c20 h
            exact t_L_bests_531 C0 N hN (c0 := c0 + 16)  (by omega) h hW hS (lv_sub hl [1, 2, 4] rfl)
    · have h := zip c9 h
      refine lv_iload hx hb dL_bests_479 (lv_at hl 0 rfl) ?_
      refine lv_sipush (v := -8003) hx hb dL_bests_481 (by decide) ?_
      refine lv_icmp_ne (tgt := 545) hx hb dL_bests_484 (by decide) (fun c21 => ?_) (fun c21 => ?_)
      · have h := zin c21 h
        exact t_L_bests_545 C0 N hN (c0 := c0 + 12)  (by omega) h hW hS (lv_sub hl [] rfl)
      · have h := zip c21 h
        refine lv_aload_n hx hb dL_bests_487 rfl (lv_at hl 1 rfl) ?_
        refine lv_bipush (v := 16) hx hb dL_bests_488 (by decide) ?_
        refine lv_iload_n hx hb dL_bests_490 rfl (lv_at hl 2 rfl) ?_
        refine lv_iconst (v := 0) hx hb dL_bests_491 (by decide) ?_
        refine lv_iconst (v := 0) hx hb dL_bests_492 (by decide) ?_
        refine lv_iconst (v := 0) hx hb dL_bests_493 (by decide) ?_
        obtain ⟨q22, T24, e23, h⟩ := zbp_some h
        refine y_calli hS (vx_runSW (As := [.ref x0, .int (16 : Int32), .int w1, .int (0 : Int32), .int (0 : Int32), .int (0 : Int32)]) (rest := []) ⟨hx, hb, hml, hown, hts⟩ (m_L_call l hlt N hN e23) (vx_cwSW (hh := [(0, 11, 12, 14), (0, 11, 18, 16), (0, 11, 24, 18)]) 6 hts (gM_L_call wsM_up) rfl rfl rfl (by decide +kernel) ⟨Nat.le_of_ble_eq_true rfl, Nat.le_of_ble_eq_true rfl⟩) (y_preS hK hE hlo hW hS [.ref x0, .int (16 : Int32), .int w1, .int (0 : Int32), .int (0 : Int32), .int (0 : Int32)]) rfl rfl hl.1 rfl (lv_room (Nat.le_of_ble_eq_true rfl)) dL_bests_494 ⟨by show c0 + 12 + 11 ≤ 434; omega, by show 8 * (c0 + 12) + 88 ≤ 3472; omega⟩) (fun H locs hW hS => ?_)
        refine W.widen (k := c0 + 23) (n := 8 * (c0 + 23)) (by omega) (by omega) ?_
        refine lv_sipush (v := -8003) hx hb dL_bests_497 (by decide) ?_
        refine lv_icmp_ne (tgt := 545) hx hb dL_bests_500 (by decide) (fun c25 => ?_) (fun c25 => ?_)
        · have h := zin c25 h
          exact t_L_bests_545 C0 N hN (c0 := c0 + 23)  (by omega) h hW hS (lv_sub hl [] rfl)
        · have h := zip c25 h
          refine lv_goto (tgt := 541) hx hb dL_bests_503 (by decide) ?_
          exact t_L_bests_541 C0 N hN (c0 := c0 + 23)  (by omega) h hW hS (lv_sub hl [] rfl)
noncomputable def f_L_bests_447 (N : Nat) (kh31 : Int32 → Int32 → Int32 → Int32 → Int32 → yT → Option (Int32 × yT)) (w1 : Int32) (w2 : Int32) (w4 : Int32) (w5 : Int32) (s0 : Int32) (T : yT) : Option (Int32 × yT) :=
kh31 w1 w2 s0 w4 (w5 + 1) T
set_option maxRecDepth 100000 in
set_option maxHeartbeats 8000000 in
theorem t_L_bests_447 {p : Program} {l : Launch} {e : Env} {s : State} {m : MethodId} {args : Array Value} {below : List Frame} {meth : Method} {c : Code} {D : va_G} {cy : Nat → ClassId} {x0 lo : Nat} (C0 : yCx p l s m c meth args cL_bests 11 wsM_bests RL (some .boolean) D cy lo) (N : Nat) (hN : 10000000 ≤ N) {kh31 : Int32 → Int32 → Int32 → Int32 → Int32 → yT → Option (Int32 × yT)} {ch31 : Nat} {c0 : Nat} {w1 : Int32} {w2 : Int32} {w4 : Int32} {w5 : Int32} {s0 : Int32} {T : yT} {r : Int32} {Tr : yT} (hm31 : ch31 ≤ 434) (hk31 : ∀ {y1 : Int32} {y2 : Int32} {y3 : Int32} {y4 : Int32} {y5 : Int32} {T : yT}, kh31 y1 y2 y3 y4 y5 T = some (r, Tr) → ∀ {H : Heap} {locs : List Loc} {ls : Array Slot}, yWd D cy x0 lo T H → va_S (yA lo) s.heap H locs → lv_has ls 11 [(0, .ref x0), (1, .int y1), (2, .int y2), (3, .int y3), (4, .int y4), (5, .int y5)] → W p l e (headSpec wsM_bests ({ frames := 18, cells := 434, slots := 3472, locals := 470 } : Room)).room s m args below meth c H locs (ch31) (8 * (ch31)) (MQ below (yQi D cy x0 lo r Tr) args s 434 3472 (yA lo)) (F0 m 31 ls [])) (hc : c0 + 0 ≤ 434) (he31 : c0 + 0 ≤ ch31) (h : f_L_bests_447 N kh31 w1 w2 w4 w5 s0 T = some (r, Tr)) {H : Heap} {locs : List Loc} {ls : Array Slot} (hW : yWd D cy x0 lo T H) (hS : va_S (yA lo) s.heap H locs) (hl : lv_has ls 11 [(0, .ref x0), (1, .int w1), (2, .int w2), (4, .int w4), (5, .int w5)]) : W p l e (headSpec wsM_bests ({ frames := 18, cells := 434, slots := 3472, locals := 470 } : Room)).room s m args below meth c H locs (c0) (8 * (c0)) (MQ below (yQi D cy x0 lo r Tr) args s 434 3472 (yA lo)) (F0 m 447 ls [.int s0]) := by
  obtain ⟨hx, hb, hr, hml, hown, hts, hlocks, hK, hE, hlo, hlt⟩ := id C0
  unfold f_L_bests_447 at h
  refine lv_istore_n (lv' := [(3, .int s0), (0, .ref x0), (1, .int w1), (2, .int w2), (4, .int w4), (5, .int w5)]) hx hb dL_bests_447 rfl hl (by decide) rfl (fun ls hl => ?_)
  refine lv_iinc (k := 5) (v := (w5 + 1)) (lv' := [(5, .int (w5 + 1)), (3, .int s0), (0, .ref x0), (1, .int w1), (2, .int w2), (4, .int w4)]) hx hb dL_bests_448 hl rfl (by rw [show Int32.ofInt 1 = (1 : Int32) from by decide]) (by decide) rfl (fun ls hl => ?_)
  refine lv_goto (tgt := 31) hx hb dL_bests_451 (by decide) ?_
  refine W.widen (k := ch31) (n := 8 * ch31) (by omega) (by omega) ?_
  exact hk31 h hW hS (lv_sub hl [2, 3, 4, 1, 5, 0] rfl)
noncomputable def f_L_bests_446 (N : Nat) (kh31 : Int32 → Int32 → Int32 → Int32 → Int32 → yT → Option (Int32 × yT)) (w1 : Int32) (w2 : Int32) (w4 : Int32) (w5 : Int32) (T : yT) : Option (Int32 × yT) :=
f_L_bests_447 N kh31 w1 w2 w4 w5 (0 : Int32) T
set_option maxRecDepth 100000 in
set_option maxHeartbeats 8000000 in
theorem t_L_bests_446 {p : Program} {l : Launch} {e : Env} {s : State} {m : MethodId} {args : Array Value} {below : List Frame} {meth : Method} {c : Code} {D : va_G} {cy : Nat → ClassId} {x0 lo : Nat} (C0 : yCx p l s m c meth args cL_bests 11 wsM_bests RL (some .boolean) D cy lo) (N : Nat) (hN : 10000000 ≤ N) {kh31 : Int32 → Int32 → Int32 → Int32 → Int32 → yT → Option (Int32 × yT)} {ch31 : Nat} {c0 : Nat} {w1 : Int32} {w2 : Int32} {w4 : Int32} {w5 : Int32} {T : yT} {r : Int32} {Tr : yT} (hm31 : ch31 ≤ 434) (hk31 : ∀ {y1 : Int32} {y2 : Int32} {y3 : Int32} {y4 : Int32} {y5 : Int32} {T : yT}, kh31 y1 y2 y3 y4 y5 T = some (r, Tr) → ∀ {H : Heap} {locs : List Loc} {ls : Array Slot}, yWd D cy x0 lo T H → va_S (yA lo) s.heap H locs → lv_has ls 11 [(0, .ref x0), (1, .int y1), (2, .int y2), (3, .int y3), (4, .int y4), (5, .int y5)] → W p l e (headSpec wsM_bests ({ frames := 18, cells := 434, slots := 3472, locals := 470 } : Room)).room s m args below meth c H locs (ch31) (8 * (ch31)) (MQ below (yQi D cy x0 lo r Tr) args s 434 3472 (yA lo)) (F0 m 31 ls [])) (hc : c0 + 0 ≤ 434) (he31 : c0 + 0 ≤ ch31) (h : f_L_bests_446 N kh31 w1 w2 w4 w5 T = some (r, Tr)) {H : Heap} {locs : List Loc} {ls : Array Slot} (hW : yWd D cy x0 lo T H) (hS : va_S (yA lo) s.heap H locs) (hl : lv_has ls 11 [(0, .ref x0), (1, .int w1), (2, .int w2), (4, .int w4), (5, .int w5)]) : W p l e (headSpec wsM_bests ({ frames := 18, cells := 434, slots := 3472, locals := 470 } : Room)).room s m args below meth c H locs (c0) (8 * (c0)) (MQ below (yQi D cy x0 lo r Tr) args s 434 3472 (yA lo)) (F0 m 446 ls []) := by
  obtain ⟨hx, hb, hr, hml, hown, hts, hlocks, hK, hE, hlo, hlt⟩ := id C0
  unfold f_L_bests_446 at h
  refine lv_iconst (v := 0) hx hb dL_bests_446 (by decide) ?_
  exact t_L_bests_447 C0 N hN (ch31 := ch31) (c0 := c0) hm31 hk31 (by omega) (by omega) h hW hS (lv_sub hl [0, 1, 2, 3, 4] rfl)
noncomputable def f_L_bests_442 (N : Nat) (kh31 : Int32 → Int32 → Int32 → Int32 → Int32 → yT → Option (Int32 × yT)) (w1 : Int32) (w2 : Int32) (w4 : Int32) (w5 : Int32) (T : yT) : Option (Int32 × yT) :=
f_L_bests_447 N kh31 w1 w2 w4 w5 (1 : Int32) T
set_option maxRecDepth 100000 in
set_option maxHeartbeats 8000000 in
theorem t_L_bests_442 {p : Program} {l : Launch} {e : Env} {s : State} {m : MethodId} {args : Array Value} {below : List Frame} {meth : Method} {c : Code} {D : va_G} {cy : Nat → ClassId} {x0 lo : Nat} (C0 : yCx p l s m c meth args cL_bests 11 wsM_bests RL (some .boolean) D cy lo) (N : Nat) (hN : 10000000 ≤ N) {kh31 : Int32 → Int32 → Int32 → Int32 → Int32 → yT → Option (Int32 × yT)} {ch31 : Nat} {c0 : Nat} {w1 : Int32} {w2 : Int32} {w4 : Int32} {w5 : Int32} {T : yT} {r : Int32} {Tr : yT} (hm31 : ch31 ≤ 434) (hk31 : ∀ {y1 : Int32} {y2 : Int32} {y3 : Int32} {y4 : Int32} {y5 : Int32} {T : yT}, kh31 y1 y2 y3 y4 y5 T = some (r, Tr) → ∀ {H : Heap} {locs : List Loc} {ls : Array Slot}, yWd D cy x0 lo T H → va_S (yA lo) s.heap H locs → lv_has ls 11 [(0, .ref x0), (1, .int y1), (2, .int y2), (3, .int y3), (4, .int y4), (5, .int y5)] → W p l e (headSpec wsM_bests ({ frames := 18, cells := 434, slots := 3472, locals := 470 } : Room)).room s m args below meth c H locs (ch31) (8 * (ch31)) (MQ below (yQi D cy x0 lo r Tr) args s 434 3472 (yA lo)) (F0 m 31 ls [])) (hc : c0 + 0 ≤ 434) (he31 : c0 + 0 ≤ ch31) (h : f_L_bests_442 N kh31 w1 w2 w4 w5 T = some (r, Tr)) {H : Heap} {locs : List Loc} {ls : Array Slot} (hW : yWd D cy x0 lo T H) (hS : va_S (yA lo) s.heap H locs) (hl : lv_has ls 11 [(0, .ref x0), (1, .int w1), (2, .int w2), (4, .int w4), (5, .int w5)]) : W p l e (headSpec wsM_bests ({ frames := 18, cells := 434, slots := 3472, locals := 470 } : Room)).room s m args below meth c H locs (c0) (8 * (c0)) (MQ below (yQi D cy x0 lo r Tr) args s 434 3472 (yA lo)) (F0 m 442 ls []) := by
  obtain ⟨hx, hb, hr, hml, hown, hts, hlocks, hK, hE, hlo, hlt⟩ := id C0
  unfold f_L_bests_442 at h
  refine lv_iconst (v := 1) hx hb dL_bests_442 (by decide) ?_
  refine lv_goto (tgt := 447) hx hb dL_bests_443 (by decide) ?_
  exact t_L_bests_447 C0 N hN (ch31 := ch31) (c0 := c0) hm31 hk31 (by omega) (by omega) h hW hS (lv_sub hl [0, 1, 2, 3, 4] rfl)
noncomputable def f_L_bests_434 (N : Nat) (kh31 : Int32 → Int32 → Int32 → Int32 → Int32 → yT → Option (Int32 × yT)) (w1 : Int32) (w2 : Int32) (w4 : Int32) (w5 : Int32) (w9 : Int32) (s0 : Int32) (s1 : Int32) (s3 : Int32) (T : yT) : Option (Int32 × yT) :=
zbp (y_X6_ranked T s1 s0 w9) fun q1 T3 => (
zx q1 (fun _ => none) fun r4 => (
(if s3 < r4 then
f_L_bests_446 N kh31 w1 w2 w4 w5 T3
else
f_L_bests_442 N kh31 w1 w2 w4 w5 T3)))
set_option maxRecDepth 100000 in
set_option maxHeartbeats 8000000 in
theorem t_L_bests_434 {p : Program} {l : Launch} {e : Env} {s : State} {m : MethodId} {args : Array Value} {below : List Frame} {meth : Method} {c : Code} {D : va_G} {cy : Nat → ClassId} {x0 lo : Nat} (C0 : yCx p l s m c meth args cL_bests 11 wsM_bests RL (some .boolean) D cy lo) (N : Nat) (hN : 10000000 ≤ N) {kh31 : Int32 → Int32 → Int32 → Int32 → Int32 → yT → Option (Int32 × yT)} {ch31 : Nat} {c0 : Nat} {w1 : Int32} {w2 : Int32} {w4 : Int32} {w5 : Int32} {w9 : Int32} {s0 : Int32} {s1 : Int32} {s3 : Int32} {T : yT} {r : Int32} {Tr : yT} (hm31 : ch31 ≤ 434) (hk31 : ∀ {y1 : Int32} {y2 : Int32} {y3 : Int32} {y4 : Int32} {y5 : Int32} {T : yT}, kh31 y1 y2 y3 y4 y5 T = some (r, Tr) → ∀ {H : Heap} {locs : List Loc} {ls : Array Slot}, yWd D cy x0 lo T H → va_S (yA lo) s.heap H locs → lv_has ls 11 [(0, .ref x0), (1, .int y1), (2, .int y2), (3, .int y3), (4, .int y4), (5, .int y5)] → W p l e (headSpec wsM_bests ({ frames := 18, cells := 434, slots := 3472, locals := 470 } : Room)).room s m args below meth c H locs (ch31) (8 * (ch31)) (MQ below (yQi D cy x0 lo r Tr) args s 434 3472 (yA lo)) (F0 m 31 ls [])) (hc : c0 + 2 ≤ 434) (he31 : c0 + 2 ≤ ch31) (h : f_L_bests_434 N kh31 w1 w2 w4 w5 w9 s0 s1 s3 T = some (r, Tr)) {H : Heap} {locs : List Loc} {ls : Array Slot} (hW : yWd D cy x0 lo T H) (hS : va_S (yA lo) s.heap H locs) (hl : lv_has ls 11 [(0, .ref x0), (1, .int w1), (2, .int w2), (4, .int w4), (5, .int w5), (9, .int w9)]) : W p l e (headSpec wsM_bests ({ frames := 18, cells := 434, slots := 3472, locals := 470 } : Room)).room s m args below meth c H locs (c0) (8 * (c0)) (MQ below (yQi D cy x0 lo r Tr) args s 434 3472 (yA lo)) (F0 m 434 ls [.int s0, .int s1, .ref x0, .int s3]) := by
  obtain ⟨hx, hb, hr, hml, hown, hts, hlocks, hK, hE, hlo, hlt⟩ := id C0
  unfold f_L_bests_434 at h
  refine lv_iload hx hb dL_bests_434 (lv_at hl 5 rfl) ?_
  obtain ⟨q1, T3, e2, h⟩ := zbp_some h
  refine y_xcalli hS (vx_runV (As := [.int s1, .int s0, .int w9]) (rest := [.int s3]) ⟨hx, hb, hml, hown, hts⟩ (n_X6_ranked l hlt N hN e2) (cwV 3 hts (gM_X6_ranked wsM_up) rfl rfl rfl (by decide +kernel) ⟨Nat.le_of_ble_eq_true rfl, Nat.le_of_ble_eq_true rfl⟩) (y_preV hK hE hlo hW hS [.int s1, .int s0, .int w9]) rfl rfl hl.1 rfl (lv_room (Nat.le_of_ble_eq_true rfl)) dL_bests_436 ⟨by show c0 + 2 ≤ 434; omega, by show 8 * (c0) + 12 ≤ 3472; omega⟩) (fun k hk H locs q9 ce hW hS hce hcv hcl => by subst hk; cases (show (none : Option (Int32 × yT)) = some (r, Tr) from zx_l h)) (fun r4 hk H locs hW hS => ?_)
  subst hk
  have h := zx_r h
  refine W.widen (k := c0 + 2) (n := 8 * (c0 + 2)) (by omega) (by omega) ?_
  refine lv_icmp_lt (tgt := 446) hx hb dL_bests_439 (by decide) (fun c5 => ?_) (fun c5 => ?_)
  · have h := zip c5 h
    exact t_L_bests_446 C0 N hN (ch31 := ch31) (c0 := c0 + 2) hm31 hk31 (by omega) (by omega) h hW hS (lv_sub hl [0, 1, 2, 3, 4] rfl)
  · have h := zin c5 h
    exact t_L_bests_442 C0 N hN (ch31 := ch31) (c0 := c0 + 2) hm31 hk31 (by omega) (by omega) h hW hS (lv_sub hl [0, 1, 2, 3, 4] rfl)
noncomputable def f_L_bests_414 (N : Nat) (kh31 : Int32 → Int32 → Int32 → Int32 → Int32 → yT → Option (Int32 × yT)) (w1 : Int32) (w2 : Int32) (w4 : Int32) (w5 : Int32) (w9 : Int32) (s0 : Int32) (s1 : Int32) (T : yT) : Option (Int32 × yT) :=
zbp (y_X6_ranked T s1 s0 (w9 - (1 : Int32))) fun q1 T3 => (
zx q1 (fun _ => none) fun r4 => (
(if w5 = (1 : Int32) then
f_L_bests_434 N kh31 w1 w2 w4 w5 w9 (1 : Int32) w1 r4 T3
else
f_L_bests_434 N kh31 w1 w2 w4 w5 w9 (0 : Int32) w1 r4 T3)))
set_option maxRecDepth 100000 in
set_option maxHeartbeats 8000000 in
theorem t_L_bests_414 {p : Program} {l : Launch} {e : Env} {s : State} {m : MethodId} {args : Array Value} {below : List Frame} {meth : Method} {c : Code} {D : va_G} {cy : Nat → ClassId} {x0 lo : Nat} (C0 : yCx p l s m c meth args cL_bests 11 wsM_bests RL (some .boolean) D cy lo) (N : Nat) (hN : 10000000 ≤ N) {kh31 : Int32 → Int32 → Int32 → Int32 → Int32 → yT → Option (Int32 × yT)} {ch31 : Nat} {c0 : Nat} {w1 : Int32} {w2 : Int32} {w4 : Int32} {w5 : Int32} {w9 : Int32} {s0 : Int32} {s1 : Int32} {T : yT} {r : Int32} {Tr : yT} (hm31 : ch31 ≤ 434) (hk31 : ∀ {y1 : Int32} {y2 : Int32} {y3 : Int32} {y4 : Int32} {y5 : Int32} {T : yT}, kh31 y1 y2 y3 y4 y5 T = some (r, Tr) → ∀ {H : Heap} {locs : List Loc} {ls : Array Slot}, yWd D cy x0 lo T H → va_S (yA lo) s.heap H locs → lv_has ls 11 [(0, .ref x0), (1, .int y1), (2, .int y2), (3, .int y3), (4, .int y4), (5, .int y5)] → W p l e (headSpec wsM_bests ({ frames := 18, cells := 434, slots := 3472, locals := 470 } : Room)).room s m args below meth c H locs (ch31) (8 * (ch31)) (MQ below (yQi D cy x0 lo r Tr) args s 434 3472 (yA lo)) (F0 m 31 ls [])) (hc : c0 + 4 ≤ 434) (he31 : c0 + 4 ≤ ch31) (h : f_L_bests_414 N kh31 w1 w2 w4 w5 w9 s0 s1 T = some (r, Tr)) {H : Heap} {locs : List Loc} {ls : Array Slot} (hW : yWd D cy x0 lo T H) (hS : va_S (yA lo) s.heap H locs) (hl : lv_has ls 11 [(0, .ref x0), (1, .int w1), (2, .int w2), (4, .int w4), (5, .int w5), (9, .int w9)]) : W p l e (headSpec wsM_bests ({ frames := 18, cells := 434, slots := 3472, locals := 470 } : Room)).room s m args below meth c H locs (c0) (8 * (c0)) (MQ below (yQi D cy x0 lo r Tr) args s 434 3472 (yA lo)) (F0 m 414 ls [.int s0, .int s1, .ref x0]) := by
  obtain ⟨hx, hb, hr, hml, hown, hts, hlocks, hK, hE, hlo, hlt⟩ := id C0
  unfold f_L_bests_414 at h
  refine lv_iload hx hb dL_bests_414 (lv_at hl 5 rfl) ?_
  refine lv_iconst (v := 1) hx hb dL_bests_416 (by decide) ?_
  refine lv_isub hx hb dL_bests_417 ?_
  obtain ⟨q1, T3, e2, h⟩ := zbp_some h
  refine y_xcalli hS (vx_runV (As := [.int s1, .int s0, .int (w9 - (1 : Int32))]) (rest := []) ⟨hx, hb, hml, hown, hts⟩ (n_X6_ranked l hlt N hN e2) (cwV 3 hts (gM_X6_ranked wsM_up) rfl rfl rfl (by decide +kernel) ⟨Nat.le_of_ble_eq_true rfl, Nat.le_of_ble_eq_true rfl⟩) (y_preV hK hE hlo hW hS [.int s1, .int s0, .int (w9 - (1 : Int32))]) rfl rfl hl.1 rfl (lv_room (Nat.le_of_ble_eq_true rfl)) dL_bests_418 ⟨by show c0 + 2 ≤ 434; omega, by show 8 * (c0) + 12 ≤ 3472; omega⟩) (fun k hk H locs q9 ce hW hS hce hcv hcl => by subst hk; cases (show (none : Option (Int32 × yT)) = some (r, Tr) from zx_l h)) (fun r4 hk H locs hW hS => ?_)
  subst hk
  have h := zx_r h
  refine W.widen (k := c0 + 2) (n := 8 * (c0 + 2)) (by omega) (by omega) ?_
  refine lv_aload_n hx hb dL_bests_421 rfl (lv_at hl 0 rfl) ?_
  refine lv_iload_n hx hb dL_bests_422 rfl (lv_at hl 1 rfl) ?_
  refine lv_iload hx hb dL_bests_423 (lv_at hl 4 rfl) ?_
  refine lv_iconst (v := 1) hx hb dL_bests_425 (by decide) ?_
  refine lv_icmp_ne (tgt := 433) hx hb dL_bests_426 (by decide) (fun c5 => ?_) (fun c5 => ?_)
  · have h := zin c5 h
    refine lv_iconst (v := 0) hx hb dL_bests_433 (by decide) ?_
    exact t_L_bests_434 C0 N hN (ch31 := ch31) (c0 := c0 + 2) hm31 hk31 (by omega) (by omega) h hW hS (lv_sub hl [0, 1, 2, 3, 4, 5] rfl)
  · have h := zip c5 h
    refine lv_iconst (v := 1) hx hb dL_bests_429 (by decide) ?_
    refine lv_goto (tgt := 434) hx hb dL_bests_430 (by decide) ?_
    exact t_L_bests_434 C0 N hN (ch31 := ch31) (c0 := c0 + 2) hm31 hk31 (by omega) (by omega) h hW hS (lv_sub hl [0, 1, 2, 3, 4, 5] rfl)
noncomputable def f_L_bests_386 (N : Nat) (kh31 : Int32 → Int32 → Int32 → Int32 → Int32 → yT → Option (Int32 × yT)) (w1 : Int32) (w2 : Int32) (w4 : Int32) (w5 : Int32) (w7 : Int32) (w9 : Int32) (s0 : Int32) (s1 : Int32) (T : yT) : Option (Int32 × yT) :=
zbp (y_X6_ranked T s1 s0 w9) fun q1 T3 => (
zx q1 (fun _ => none) fun r4 => (
(if w7 < r4 then
f_L_bests_446 N kh31 w1 w2 w4 w5 T3
else
(if w9 = 0 then
f_L_bests_442 N kh31 w1 w2 w4 w5 T3
else
(if w5 = (1 : Int32) then
f_L_bests_414 N kh31 w1 w2 w4 w5 w9 (1 : Int32) w1 T3
else
f_L_bests_414 N kh31 w1 w2 w4 w5 w9 (0 : Int32) w1 T3)))))
set_option maxRecDepth 100000 in
set_option maxHeartbeats 8000000 in
theorem t_L_bests_386 {p : Program} {l : Launch} {e : Env} {s : State} {m : MethodId} {args : Array Value} {below : List Frame} {meth : Method} {c : Code} {D : va_G} {cy : Nat → ClassId} {x0 lo : Nat} (C0 : yCx p l s m c meth args cL_bests 11 wsM_bests RL (some .boolean) D cy lo) (N : Nat) (hN : 10000000 ≤ N) {kh31 : Int32 → Int32 → Int32 → Int32 → Int32 → yT → Option (Int32 × yT)} {ch31 : Nat} {c0 : Nat} {w1 : Int32} {w2 : Int32} {w4 : Int32} {w5 : Int32} {w7 : Int32} {w9 : Int32} {s0 : Int32} {s1 : Int32} {T : yT} {r : Int32} {Tr : yT} (hm31 : ch31 ≤ 434) (hk31 : ∀ {y1 : Int32} {y2 : Int32} {y3 : Int32} {y4 : Int32} {y5 : Int32} {T : yT}, kh31 y1 y2 y3 y4 y5 T = some (r, Tr) → ∀ {H : Heap} {locs : List Loc} {ls : Array Slot}, yWd D cy x0 lo T H → va_S (yA lo) s.heap H locs → lv_has ls 11 [(0, .ref x0), (1, .int y1), (2, .int y2), (3, .int y3), (4, .int y4), (5, .int y5)] → W p l e (headSpec wsM_bests ({ frames := 18, cells := 434, slots := 3472, locals := 470 } : Room)).room s m args below meth c H locs (ch31) (8 * (ch31)) (MQ below (yQi D cy x0 lo r Tr) args s 434 3472 (yA lo)) (F0 m 31 ls [])) (hc : c0 + 6 ≤ 434) (he31 : c0 + 6 ≤ ch31) (h : f_L_bests_386 N kh31 w1 w2 w4 w5 w7 w9 s0 s1 T = some (r, Tr)) {H : Heap} {locs : List Loc} {ls : Array Slot} (hW : yWd D cy x0 lo T H) (hS : va_S (yA lo) s.heap H locs) (hl : lv_has ls 11 [(0, .ref x0), (1, .int w1), (2, .int w2), (4, .int w4), (5, .int w5), (7, .int w7), (9, .int w9)]) : W p l e (headSpec wsM_bests ({ frames := 18, cells := 434, slots := 3472, locals := 470 } : Room)).room s m args below meth c H locs (c0) (8 * (c0)) (MQ below (yQi D cy x0 lo r Tr) args s 434 3472 (yA lo)) (F0 m 386 ls [.int s0, .int s1, .ref x0]) := by
  obtain ⟨hx, hb, hr, hml, hown, hts, hlocks, hK, hE, hlo, hlt⟩ := id C0
  unfold f_L_bests_386 at h
  refine lv_iload hx hb dL_bests_386 (lv_at hl 6 rfl) ?_
  obtain ⟨q1, T3, e2, h⟩ := zbp_some h
  refine y_xcalli hS (vx_runV (As := [.int s1, .int s0, .int w9]) (rest := []) ⟨hx, hb, hml, hown, hts⟩ (n_X6_ranked l hlt N hN e2) (cwV 3 hts (gM_X6_ranked wsM_up) rfl rfl rfl (by decide +kernel) ⟨Nat.le_of_ble_eq_true rfl, Nat.le_of_ble_eq_true rfl⟩) (y_preV hK hE hlo hW hS [.int s1, .int s0, .int w9]) rfl rfl hl.1 rfl (lv_room (Nat.le_of_ble_eq_true rfl)) dL_bests_388 ⟨by show c0 + 2 ≤ 434; omega, by show 8 * (c0) + 12 ≤ 3472; omega⟩) (fun k hk H locs q9 ce hW hS hce hcv hcl => by subst hk; cases (show (none : Option (Int32 × yT)) = some (r, Tr) from zx_l h)) (fun r4 hk H locs hW hS => ?_)
  subst hk
  have h := zx_r h
  refine W.widen (k := c0 + 2) (n := 8 * (c0 + 2)) (by omega) (by omega) ?_
  refine lv_iload hx hb dL_bests_391 (lv_at hl 5 rfl) ?_
  refine lv_icmp_gt (tgt := 446) hx hb dL_bests_393 (by decide) (fun c5 => ?_) (fun c5 => ?_)
  · have h := zip c5 h
    exact t_L_bests_446 C0 N hN (ch31 := ch31) (c0 := c0 + 2) hm31 hk31 (by omega) (by omega) h hW hS (lv_sub hl [0, 1, 2, 3, 4] rfl)
  · have h := zin c5 h
    refine lv_iload hx hb dL_bests_396 (lv_at hl 6 rfl) ?_
    refine lv_if_eq (tgt := 442) hx hb dL_bests_398 (by decide) (fun c6 => ?_) (fun c6 => ?_)
    · have h := zip c6 h
      exact t_L_bests_442 C0 N hN (ch31 := ch31) (c0 := c0 + 2) hm31 hk31 (by omega) (by omega) h hW hS (lv_sub hl [0, 1, 2, 3, 4] rfl)
    · have h := zin c6 h
      refine lv_aload_n hx hb dL_bests_401 rfl (lv_at hl 0 rfl) ?_
      refine lv_iload_n hx hb dL_bests_402 rfl (lv_at hl 1 rfl) ?_
      refine lv_iload hx hb dL_bests_403 (lv_at hl 4 rfl) ?_
      refine lv_iconst (v := 1) hx hb dL_bests_405 (by decide) ?_
      refine lv_icmp_ne (tgt := 413) hx hb dL_bests_406 (by decide) (fun c7 => ?_) (fun c7 => ?_)
      · have h := zin c7 h
        refine lv_iconst (v := 0) hx hb dL_bests_413 (by decide) ?_
        exact t_L_bests_414 C0 N hN (ch31 := ch31) (c0 := c0 + 2) hm31 hk31 (by omega) (by omega) h hW hS (lv_sub hl [0, 1, 2, 3, 4, 6] rfl)
      · have h := zip c7 h
        refine lv_iconst (v := 1) hx hb dL_bests_409 (by decide) ?_
        refine lv_goto (tgt := 414) hx hb dL_bests_410 (by decide) ?_
        exact t_L_bests_414 C0 N hN (ch31 := ch31) (c0 := c0 + 2) hm31 hk31 (by omega) (by omega) h hW hS (lv_sub hl [0, 1, 2, 3, 4, 6] rfl)
noncomputable def f_L_bests_362 (N : Nat) (kh31 : Int32 → Int32 → Int32 → Int32 → Int32 → yT → Option (Int32 × yT)) (w1 : Int32) (w2 : Int32) (w3 : Int32) (w4 : Int32) (w5 : Int32) (w6 : Int32) (w7 : Int32) (s0 : Int32) (T : yT) : Option (Int32 × yT) :=
(if w3 = 0 then
f_L_bests_446 N kh31 w1 w2 w4 w5 T
else
(if w6 = 0 then
f_L_bests_442 N kh31 w1 w2 w4 w5 T
else
(if w5 = (1 : Int32) then
f_L_bests_386 N kh31 w1 w2 w4 w5 w7 s0 (1 : Int32) w1 T
else
f_L_bests_386 N kh31 w1 w2 w4 w5 w7 s0 (0 : Int32) w1 T)))
set_option maxRecDepth 100000 in
set_option maxHeartbeats 8000000 in
theorem t_L_bests_362 {p : Program} {l : Launch} {e : Env} {s : State} {m : MethodId} {args : Array Value} {below : List Frame} {meth : Method} {c : Code} {D : va_G} {cy : Nat → ClassId} {x0 lo : Nat} (C0 : yCx p l s m c meth args cL_bests 11 wsM_bests RL (some .boolean) D cy lo) (N : Nat) (hN : 10000000 ≤ N) {kh31 : Int32 → Int32 → Int32 → Int32 → Int32 → yT → Option (Int32 × yT)} {ch31 : Nat} {c0 : Nat} {w1 : Int32} {w2 : Int32} {w3 : Int32} {w4 : Int32} {w5 : Int32} {w6 : Int32} {w7 : Int32} {s0 : Int32} {T : yT} {r : Int32} {Tr : yT} (hm31 : ch31 ≤ 434) (hk31 : ∀ {y1 : Int32} {y2 : Int32} {y3 : Int32} {y4 : Int32} {y5 : Int32} {T : yT}, kh31 y1 y2 y3 y4 y5 T = some (r, Tr) → ∀ {H : Heap} {locs : List Loc} {ls : Array Slot}, yWd D cy x0 lo T H → va_S (yA lo) s.heap H locs → lv_has ls 11 [(0, .ref x0), (1, .int y1), (2, .int y2), (3, .int y3), (4, .int y4), (5, .int y5)] → W p l e (headSpec wsM_bests ({ frames := 18, cells := 434, slots := 3472, locals := 470 } : Room)).room s m args below meth c H locs (ch31) (8 * (ch31)) (MQ below (yQi D cy x0 lo r Tr) args s 434 3472 (yA lo)) (F0 m 31 ls [])) (hc : c0 + 6 ≤ 434) (he31 : c0 + 6 ≤ ch31) (h : f_L_bests_362 N kh31 w1 w2 w3 w4 w5 w6 w7 s0 T = some (r, Tr)) {H : Heap} {locs : List Loc} {ls : Array Slot} (hW : yWd D cy x0 lo T H) (hS : va_S (yA lo) s.heap H locs) (hl : lv_has ls 11 [(0, .ref x0), (1, .int w1), (2, .int w2), (3, .int w3), (4, .int w4), (5, .int w5), (6, .int w6), (7, .int w7)]) : W p l e (headSpec wsM_bests ({ frames := 18, cells := 434, slots := 3472, locals := 470 } : Room)).room s m args below meth c H locs (c0) (8 * (c0)) (MQ below (yQi D cy x0 lo r Tr) args s 434 3472 (yA lo)) (F0 m 362 ls [.int s0]) := by
  obtain ⟨hx, hb, hr, hml, hown, hts, hlocks, hK, hE, hlo, hlt⟩ := id C0
  unfold f_L_bests_362 at h
  refine lv_istore (lv' := [(9, .int s0), (0, .ref x0), (1, .int w1), (2, .int w2), (3, .int w3), (4, .int w4), (5, .int w5), (6, .int w6), (7, .int w7)]) hx hb dL_bests_362 hl (by decide) rfl (fun ls hl => ?_)
  refine lv_iload_n hx hb dL_bests_364 rfl (lv_at hl 4 rfl) ?_
  refine lv_if_eq (tgt := 446) hx hb dL_bests_365 (by decide) (fun c1 => ?_) (fun c1 => ?_)
  · have h := zip c1 h
    exact t_L_bests_446 C0 N hN (ch31 := ch31) (c0 := c0) hm31 hk31 (by omega) (by omega) h hW hS (lv_sub hl [1, 2, 3, 5, 6] rfl)
  · have h := zin c1 h
    refine lv_iload hx hb dL_bests_368 (lv_at hl 7 rfl) ?_
    refine lv_if_eq (tgt := 442) hx hb dL_bests_370 (by decide) (fun c2 => ?_) (fun c2 => ?_)
    · have h := zip c2 h
      exact t_L_bests_442 C0 N hN (ch31 := ch31) (c0 := c0) hm31 hk31 (by omega) (by omega) h hW hS (lv_sub hl [1, 2, 3, 5, 6] rfl)
    · have h := zin c2 h
      refine lv_aload_n hx hb dL_bests_373 rfl (lv_at hl 1 rfl) ?_
      refine lv_iload_n hx hb dL_bests_374 rfl (lv_at hl 2 rfl) ?_
      refine lv_iload hx hb dL_bests_375 (lv_at hl 6 rfl) ?_
      refine lv_iconst (v := 1) hx hb dL_bests_377 (by decide) ?_
      refine lv_icmp_ne (tgt := 385) hx hb dL_bests_378 (by decide) (fun c3 => ?_) (fun c3 => ?_)
      · have h := zin c3 h
        refine lv_iconst (v := 0) hx hb dL_bests_385 (by decide) ?_
        exact t_L_bests_386 C0 N hN (ch31 := ch31) (c0 := c0) hm31 hk31 (by omega) (by omega) h hW hS (lv_sub hl [1, 2, 3, 5, 6, 8, 0] rfl)
      · have h := zip c3 h
        refine lv_iconst (v := 1) hx hb dL_bests_381 (by decide) ?_
        refine lv_goto (tgt := 386) hx hb dL_bests_382 (by decide) ?_
        exact t_L_bests_386 C0 N hN (ch31 := ch31) (c0 := c0) hm31 hk31 (by omega) (by omega) h hW hS (lv_sub hl [1, 2, 3, 5, 6, 8, 0] rfl)
noncomputable def f_L_bests_346 (N : Nat) (kh31 : Int32 → Int32 → Int32 → Int32 → Int32 → yT → Option (Int32 × yT)) (w1 : Int32) (w2 : Int32) (w4 : Int32) (w5 : Int32) (w6 : Int32) (w7 : Int32) (s0 : Int32) (T : yT) : Option (Int32 × yT) :=
(if w6 = 0 then
f_L_bests_362 N kh31 w1 w2 s0 w4 w5 w6 w7 (0 : Int32) T
else
(f_L_some N w2 w6).bind fun q2 => (
f_L_bests_362 N kh31 w1 w2 s0 w4 w5 w6 w7 q2 T))
set_option maxRecDepth 100000 in
set_option maxHeartbeats 8000000 in
theorem t_L_bests_346 {p : Program} {l : Launch} {e : Env} {s : State} {m : MethodId} {args : Array Value} {below : List Frame} {meth : Method} {c : Code} {D : va_G} {cy : Nat → ClassId} {x0 lo : Nat} (C0 : yCx p l s m c meth args cL_bests 11 wsM_bests RL (some .boolean) D cy lo) (N : Nat) (hN : 10000000 ≤ N) {kh31 : Int32 → Int32 → Int32 → Int32 → Int32 → yT → Option (Int32 × yT)} {ch31 : Nat} {c0 : Nat} {w1 : Int32} {w2 : Int32} {w4 : Int32} {w5 : Int32} {w6 : Int32} {w7 : Int32} {s0 : Int32} {T : yT} {r : Int32} {Tr : yT} (hm31 : ch31 ≤ 434) (hk31 : ∀ {y1 : Int32} {y2 : Int32} {y3 : Int32} {y4 : Int32} {y5 : Int32} {T : yT}, kh31 y1 y2 y3 y4 y5 T = some (r, Tr) → ∀ {H : Heap} {locs : List Loc} {ls : Array Slot}, yWd D cy x0 lo T H → va_S (yA lo) s.heap H locs → lv_has ls 11 [(0, .ref x0), (1, .int y1), (2, .int y2), (3, .int y3), (4, .int y4), (5, .int y5)] → W p l e (headSpec wsM_bests ({ frames := 18, cells := 434, slots := 3472, locals := 470 } : Room)).room s m args below meth c H locs (ch31) (8 * (ch31)) (MQ below (yQi D cy x0 lo r Tr) args s 434 3472 (yA lo)) (F0 m 31 ls [])) (hc : c0 + 6 ≤ 434) (he31 : c0 + 6 ≤ ch31) (h : f_L_bests_346 N kh31 w1 w2 w4 w5 w6 w7 s0 T = some (r, Tr)) {H : Heap} {locs : List Loc} {ls : Array Slot} (hW : yWd D cy x0 lo T H) (hS : va_S (yA lo) s.heap H locs) (hl : lv_has ls 11 [(0, .ref x0), (1, .int w1), (2, .int w2), (4, .int w4), (5, .int w5), (6, .int w6), (7, .int w7)]) : W p l e (headSpec wsM_bests ({ frames := 18, cells := 434, slots := 3472, locals := 470 } : Room)).room s m args below meth c H locs (c0) (8 * (c0)) (MQ below (yQi D cy x0 lo r Tr) args s 434 3472 (yA lo)) (F0 m 346 ls [.int s0]) := by
  obtain ⟨hx, hb, hr, hml, hown, hts, hlocks, hK, hE, hlo, hlt⟩ := id C0
  unfold f_L_bests_346 at h
  refine lv_istore_n (lv' := [(3, .int s0), (0, .ref x0), (1, .int w1), (2, .int w2), (4, .int w4), (5, .int w5), (6, .int w6), (7, .int w7)]) hx hb dL_bests_346 rfl hl (by decide) rfl (fun ls hl => ?_)
  refine lv_iload hx hb dL_bests_347 (lv_at hl 6 rfl) ?_
  refine lv_if_ne (tgt := 356) hx hb dL_bests_349 (by decide) (fun c1 => ?_) (fun c1 => ?_)
  · have h := zin c1 h
    refine lv_iload_n hx hb dL_bests_356 rfl (lv_at hl 3 rfl) ?_
    refine lv_iload hx hb dL_bests_357 (lv_at hl 6 rfl) ?_
    obtain ⟨q2, e3, h⟩ := zb_some h
    refine y_calli hS (va_runS (As := [.int w2, .int w6]) (rest := []) ⟨hx, hb, hml, hown, hts⟩ (m_L_some l hlt N hN (T := T) e3) (va_cwS 2 hts (gM_L_some wsM_up) rfl rfl rfl (by decide +kernel) ⟨Nat.le_of_ble_eq_true rfl, Nat.le_of_ble_eq_true rfl⟩) (y_preS hK hE hlo hW hS [.int w2, .int w6]) rfl rfl hl.1 rfl (lv_room (Nat.le_of_ble_eq_true rfl)) dL_bests_359 ⟨by show c0 + 0 ≤ 434; omega, by show 8 * (c0) + 0 ≤ 3472; omega⟩) (fun H locs hW hS => ?_)
    exact t_L_bests_362 C0 N hN (ch31 := ch31) (c0 := c0) hm31 hk31 (by omega) (by omega) h hW hS (lv_sub hl [1, 2, 3, 0, 4, 5, 6, 7] rfl)
  · have h := zip c1 h
    refine lv_iconst (v := 0) hx hb dL_bests_352 (by decide) ?_
    refine lv_goto (tgt := 362) hx hb dL_bests_353 (by decide) ?_
    exact t_L_bests_362 C0 N hN (ch31 := ch31) (c0 := c0) hm31 hk31 (by omega) (by omega) h hW hS (lv_sub hl [1, 2, 3, 0, 4, 5, 6, 7] rfl)
noncomputable def f_L_bests_345 (N : Nat) (kh31 : Int32 → Int32 → Int32 → Int32 → Int32 → yT → Option (Int32 × yT)) (w1 : Int32) (w2 : Int32) (w4 : Int32) (w5 : Int32) (w6 : Int32) (w7 : Int32) (T : yT) : Option (Int32 × yT) :=
f_L_bests_346 N kh31 w1 w2 w4 w5 w6 w7 (0 : Int32) T
set_option maxRecDepth 100000 in
set_option maxHeartbeats 8000000 in
theorem t_L_bests_345 {p : Program} {l : Launch} {e : Env} {s : State} {m : MethodId} {args : Array Value} {below : List Frame} {meth : Method} {c : Code} {D : va_G} {cy : Nat → ClassId} {x0 lo : Nat} (C0 : yCx p l s m c meth args cL_bests 11 wsM_bests RL (some .boolean) D cy lo) (N : Nat) (hN : 10000000 ≤ N) {kh31 : Int32 → Int32 → Int32 → Int32 → Int32 → yT → Option (Int32 × yT)} {ch31 : Nat} {c0 : Nat} {w1 : Int32} {w2 : Int32} {w4 : Int32} {w5 : Int32} {w6 : Int32} {w7 : Int32} {T : yT} {r : Int32} {Tr : yT} (hm31 : ch31 ≤ 434) (hk31 : ∀ {y1 : Int32} {y2 : Int32} {y3 : Int32} {y4 : Int32} {y5 : Int32} {T : yT}, kh31 y1 y2 y3 y4 y5 T = some (r, Tr) → ∀ {H : Heap} {locs : List Loc} {ls : Array Slot}, yWd D cy x0 lo T H → va_S (yA lo) s.heap H locs → lv_has ls 11 [(0, .ref x0), (1, .int y1), (2, .int y2), (3, .int y3), (4, .int y4), (5, .int y5)] → W p l e (headSpec wsM_bests ({ frames := 18, cells := 434, slots := 3472, locals := 470 } : Room)).room s m args below meth c H locs (ch31) (8 * (ch31)) (MQ below (yQi D cy x0 lo r Tr) args s 434 3472 (yA lo)) (F0 m 31 ls [])) (hc : c0 + 6 ≤ 434) (he31 : c0 + 6 ≤ ch31) (h : f_L_bests_345 N kh31 w1 w2 w4 w5 w6 w7 T = some (r, Tr)) {H : Heap} {locs : List Loc} {ls : Array Slot} (hW : yWd D cy x0 lo T H) (hS : va_S (yA lo) s.heap H locs) (hl : lv_has ls 11 [(0, .ref x0), (1, .int w1), (2, .int w2), (4, .int w4), (5, .int w5), (6, .int w6), (7, .int w7)]) : W p l e (headSpec wsM_bests ({ frames := 18, cells := 434, slots := 3472, locals := 470 } : Room)).room s m args below meth c H locs (c0) (8 * (c0)) (MQ below (yQi D cy x0 lo r Tr) args s 434 3472 (yA lo)) (F0 m 345 ls []) := by
  obtain ⟨hx, hb, hr, hml, hown, hts, hlocks, hK, hE, hlo, hlt⟩ := id C0
  unfold f_L_bests_345 at h
  refine lv_iconst (v := 0) hx hb dL_bests_345 (by decide) ?_
  exact t_L_bests_346 C0 N hN (ch31 := ch31) (c0 := c0) hm31 hk31 (by omega) (by omega) h hW hS (lv_sub hl [0, 1, 2, 3, 4, 5, 6] rfl)
noncomputable def f_L_bests_341 (N : Nat) (kh31 : Int32 → Int32 → Int32 → Int32 → Int32 → yT → Option (Int32 × yT)) (w1 : Int32) (w2 : Int32) (w4 : Int32) (w5 : Int32) (w6 : Int32) (w7 : Int32) (T : yT) : Option (Int32 × yT) :=
f_L_bests_346 N kh31 w1 w2 w4 w5 w6 w7 (1 : Int32) T
set_option maxRecDepth 100000 in
set_option maxHeartbeats 8000000 in
theorem t_L_bests_341 {p : Program} {l : Launch} {e : Env} {s : State} {m : MethodId} {args : Array Value} {below : List Frame} {meth : Method} {c : Code} {D : va_G} {cy : Nat → ClassId} {x0 lo : Nat} (C0 : yCx p l s m c meth args cL_bests 11 wsM_bests RL (some .boolean) D cy lo) (N : Nat) (hN : 10000000 ≤ N) {kh31 : Int32 → Int32 → Int32 → Int32 → Int32 → yT → Option (Int32 × yT)} {ch31 : Nat} {c0 : Nat} {w1 : Int32} {w2 : Int32} {w4 : Int32} {w5 : Int32} {w6 : Int32} {w7 : Int32} {T : yT} {r : Int32} {Tr : yT} (hm31 : ch31 ≤ 434) (hk31 : ∀ {y1 : Int32} {y2 : Int32} {y3 : Int32} {y4 : Int32} {y5 : Int32} {T : yT}, kh31 y1 y2 y3 y4 y5 T = some (r, Tr) → ∀ {H : Heap} {locs : List Loc} {ls : Array Slot}, yWd D cy x0 lo T H → va_S (yA lo) s.heap H locs → lv_has ls 11 [(0, .ref x0), (1, .int y1), (2, .int y2), (3, .int y3), (4, .int y4), (5, .int y5)] → W p l e (headSpec wsM_bests ({ frames := 18, cells := 434, slots := 3472, locals := 470 } : Room)).room s m args below meth c H locs (ch31) (8 * (ch31)) (MQ below (yQi D cy x0 lo r Tr) args s 434 3472 (yA lo)) (F0 m 31 ls [])) (hc : c0 + 6 ≤ 434) (he31 : c0 + 6 ≤ ch31) (h : f_L_bests_341 N kh31 w1 w2 w4 w5 w6 w7 T = some (r, Tr)) {H : Heap} {locs : List Loc} {ls : Array Slot} (hW : yWd D cy x0 lo T H) (hS : va_S (yA lo) s.heap H locs) (hl : lv_has ls 11 [(0, .ref x0), (1, .int w1), (2, .int w2), (4, .int w4), (5, .int w5), (6, .int w6), (7, .int w7)]) : W p l e (headSpec wsM_bests ({ frames := 18, cells := 434, slots := 3472, locals := 470 } : Room)).room s m args below meth c H locs (c0) (8 * (c0)) (MQ below (yQi D cy x0 lo r Tr) args s 434 3472 (yA lo)) (F0 m 341 ls []) := by
  obtain ⟨hx, hb, hr, hml, hown, hts, hlocks, hK, hE, hlo, hlt⟩ := id C0
  unfold f_L_bests_341 at h
  refine lv_iconst (v := 1) hx hb dL_bests_341 (by decide) ?_
  refine lv_goto (tgt := 346) hx hb dL_bests_342 (by decide) ?_
  exact t_L_bests_346 C0 N hN (ch31 := ch31) (c0 := c0) hm31 hk31 (by omega) (by omega) h hW hS (lv_sub hl [0, 1, 2, 3, 4, 5, 6] rfl)
noncomputable def f_L_bests_319 (N : Nat) (kh31 : Int32 → Int32 → Int32 → Int32 → Int32 → yT → Option (Int32 × yT)) (w1 : Int32) (w2 : Int32) (w4 : Int32) (w5 : Int32) (w6 : Int32) (w7 : Int32) (T : yT) : Option (Int32 × yT) :=
(if w6 = 0 then
f_L_bests_341 N kh31 w1 w2 w4 w5 w6 w7 T
else
(if w5 = (1 : Int32) then
f_L_bests_341 N kh31 w1 w2 w4 w5 w6 w7 T
else
zbp (y_X6_best T w1 (1 : Int32)) fun q3 T5 => (
zx q3 (fun _ => none) fun r6 => (
(if r6 < w7 then
f_L_bests_345 N kh31 w1 w2 w4 w5 w6 w7 T5
else
f_L_bests_341 N kh31 w1 w2 w4 w5 w6 w7 T5)))))
set_option maxRecDepth 100000 in
set_option maxHeartbeats 8000000 in
theorem t_L_bests_319 {p : Program} {l : Launch} {e : Env} {s : State} {m : MethodId} {args : Array Value} {below : List Frame} {meth : Method} {c : Code} {D : va_G} {cy : Nat → ClassId} {x0 lo : Nat} (C0 : yCx p l s m c meth args cL_bests 11 wsM_bests RL (some .boolean) D cy lo) (N : Nat) (hN : 10000000 ≤ N) {kh31 : Int32 → Int32 → Int32 → Int32 → Int32 → yT → Option (Int32 × yT)} {ch31 : Nat} {c0 : Nat} {w1 : Int32} {w2 : Int32} {w4 : Int32} {w5 : Int32} {w6 : Int32} {w7 : Int32} {T : yT} {r : Int32} {Tr : yT} (hm31 : ch31 ≤ 434) (hk31 : ∀ {y1 : Int32} {y2 : Int32} {y3 : Int32} {y4 : Int32} {y5 : Int32} {T : yT}, kh31 y1 y2 y3 y4 y5 T = some (r, Tr) → ∀ {H : Heap} {locs : List Loc} {ls : Array Slot}, yWd D cy x0 lo T H → va_S (yA lo) s.heap H locs → lv_has ls 11 [(0, .ref x0), (1, .int y1), (2, .int y2), (3, .int y3), (4, .int y4), (5, .int y5)] → W p l e (headSpec wsM_bests ({ frames := 18, cells := 434, slots := 3472, locals := 470 } : Room)).room s m args below meth c H locs (ch31) (8 * (ch31)) (MQ below (yQi D cy x0 lo r Tr) args s 434 3472 (yA lo)) (F0 m 31 ls [])) (hc : c0 + 8 ≤ 434) (he31 : c0 + 8 ≤ ch31) (h : f_L_bests_319 N kh31 w1 w2 w4 w5 w6 w7 T = some (r, Tr)) {H : Heap} {locs : List Loc} {ls : Array Slot} (hW : yWd D cy x0 lo T H) (hS : va_S (yA lo) s.heap H locs) (hl : lv_has ls 11 [(0, .ref x0), (1, .int w1), (2, .int w2), (4, .int w4), (5, .int w5), (6, .int w6), (7, .int w7)]) : W p l e (headSpec wsM_bests ({ frames := 18, cells := 434, slots := 3472, locals := 470 } : Room)).room s m args below meth c H locs (c0) (8 * (c0)) (MQ below (yQi D cy x0 lo r Tr) args s 434 3472 (yA lo)) (F0 m 319 ls []) := by
  obtain ⟨hx, hb, hr, hml, hown, hts, hlocks, hK, hE, hlo, hlt⟩ := id C0
  unfold f_L_bests_319 at h
  refine lv_iload hx hb dL_bests_319 (lv_at hl 5 rfl) ?_
  refine lv_if_eq (tgt := 341) hx hb dL_bests_321 (by decide) (fun c1 => ?_) (fun c1 => ?_)
  · have h := zip c1 h
    exact t_L_bests_341 C0 N hN (ch31 := ch31) (c0 := c0) hm31 hk31 (by omega) (by omega) h hW hS (lv_sub hl [0, 1, 2, 3, 4, 5, 6] rfl)
  · have h := zin c1 h
    refine lv_iload hx hb dL_bests_324 (lv_at hl 4 rfl) ?_
    refine lv_iconst (v := 1) hx hb dL_bests_326 (by decide) ?_
    refine lv_icmp_eq (tgt := 341) hx hb dL_bests_327 (by decide) (fun c2 => ?_) (fun c2 => ?_)
    · have h := zip c2 h
      exact t_L_bests_341 C0 N hN (ch31 := ch31) (c0 := c0) hm31 hk31 (by omega) (by omega) h hW hS (lv_sub hl [0, 1, 2, 3, 4, 5, 6] rfl)
    · have h := zin c2 h
      refine lv_iload hx hb dL_bests_330 (lv_at hl 6 rfl) ?_
      refine lv_aload_n hx hb dL_bests_332 rfl (lv_at hl 0 rfl) ?_
      refine lv_iload_n hx hb dL_bests_333 rfl (lv_at hl 1 rfl) ?_
      refine lv_iconst (v := 1) hx hb dL_bests_334 (by decide) ?_
      obtain ⟨q3, T5, e4, h⟩ := zbp_some h
      refine y_xcalli hS (vx_runV (As := [.int w1, .int (1 : Int32)]) (rest := [.int w7]) ⟨hx, hb, hml, hown, hts⟩ (n_X6_best l hlt N hN e4) (cwV 2 hts (gM_X6_best wsM_up) rfl rfl rfl (by decide +kernel) ⟨Nat.le_of_ble_eq_true rfl, Nat.le_of_ble_eq_true rfl⟩) (y_preV hK hE hlo hW hS [.int w1, .int (1 : Int32)]) rfl rfl hl.1 rfl (lv_room (Nat.le_of_ble_eq_true rfl)) dL_bests_335 ⟨by show c0 + 2 ≤ 434; omega, by show 8 * (c0) + 12 ≤ 3472; omega⟩) (fun k hk H locs q9 ce hW hS hce hcv hcl => by subst hk; cases (show (none : Option (Int32 × yT)) = some (r, Tr) from zx_l h)) (fun r6 hk H locs hW hS => ?_)
      subst hk
      have h := zx_r h
      refine W.widen (k := c0 + 2) (n := 8 * (c0 + 2)) (by omega) (by omega) ?_
      refine lv_icmp_gt (tgt := 345) hx hb dL_bests_338 (by decide) (fun c7 => ?_) (fun c7 => ?_)
      · have h := zip c7 h
        exact t_L_bests_345 C0 N hN (ch31 := ch31) (c0 := c0 + 2) hm31 hk31 (by omega) (by omega) h hW hS (lv_sub hl [0, 1, 2, 3, 4, 5, 6] rfl)
      · have h := zin c7 h
        exact t_L_bests_341 C0 N hN (ch31 := ch31) (c0 := c0 + 2) hm31 hk31 (by omega) (by omega) h hW hS (lv_sub hl [0, 1, 2, 3, 4, 5, 6] rfl)
noncomputable def f_L_bests_303 (N : Nat) (kh31 : Int32 → Int32 → Int32 → Int32 → Int32 → yT → Option (Int32 × yT)) (w1 : Int32) (w2 : Int32) (w3 : Int32) (w4 : Int32) (w5 : Int32) (w6 : Int32) (w7 : Int32) (w8 : Int32) (T : yT) : Option (Int32 × yT) :=
(if w3 = 0 then
f_L_bests_345 N kh31 w1 w2 w4 w5 w6 w7 T
else
(if w6 = 0 then
f_L_bests_319 N kh31 w1 w2 w4 w5 w6 w7 T
else
(if w8 = w7 then
f_L_bests_319 N kh31 w1 w2 w4 w5 w6 w7 T
else
f_L_bests_345 N kh31 w1 w2 w4 w5 w6 w7 T)))
set_option maxRecDepth 100000 in
set_option maxHeartbeats 8000000 in
theorem t_L_bests_303 {p : Program} {l : Launch} {e : Env} {s : State} {m : MethodId} {args : Array Value} {below : List Frame} {meth : Method} {c : Code} {D : va_G} {cy : Nat → ClassId} {x0 lo : Nat} (C0 : yCx p l s m c meth args cL_bests 11 wsM_bests RL (some .boolean) D cy lo) (N : Nat) (hN : 10000000 ≤ N) {kh31 : Int32 → Int32 → Int32 → Int32 → Int32 → yT → Option (Int32 × yT)} {ch31 : Nat} {c0 : Nat} {w1 : Int32} {w2 : Int32} {w3 : Int32} {w4 : Int32} {w5 : Int32} {w6 : Int32} {w7 : Int32} {w8 : Int32} {T : yT} {r : Int32} {Tr : yT} (hm31 : ch31 ≤ 434) (hk31 : ∀ {y1 : Int32} {y2 : Int32} {y3 : Int32} {y4 : Int32} {y5 : Int32} {T : yT}, kh31 y1 y2 y3 y4 y5 T = some (r, Tr) → ∀ {H : Heap} {locs : List Loc} {ls : Array Slot}, yWd D cy x0 lo T H → va_S (yA lo) s.heap H locs → lv_has ls 11 [(0, .ref x0), (1, .int y1), (2, .int y2), (3, .int y3), (4, .int y4), (5, .int y5)] → W p l e (headSpec wsM_bests ({ frames := 18, cells := 434, slots := 3472, locals := 470 } : Room)).room s m args below meth c H locs (ch31) (8 * (ch31)) (MQ below (yQi D cy x0 lo r Tr) args s 434 3472 (yA lo)) (F0 m 31 ls [])) (hc : c0 + 8 ≤ 434) (he31 : c0 + 8 ≤ ch31) (h : f_L_bests_303 N kh31 w1 w2 w3 w4 w5 w6 w7 w8 T = some (r, Tr)) {H : Heap} {locs : List Loc} {ls : Array Slot} (hW : yWd D cy x0 lo T H) (hS : va_S (yA lo) s.heap H locs) (hl : lv_has ls 11 [(0, .ref x0), (1, .int w1), (2, .int w2), (3, .int w3), (4, .int w4), (5, .int w5), (6, .int w6), (7, .int w7), (8, .int w8)]) : W p l e (headSpec wsM_bests ({ frames := 18, cells := 434, slots := 3472, locals := 470 } : Room)).room s m args below meth c H locs (c0) (8 * (c0)) (MQ below (yQi D cy x0 lo r Tr) args s 434 3472 (yA lo)) (F0 m 303 ls []) := by
  obtain ⟨hx, hb, hr, hml, hown, hts, hlocks, hK, hE, hlo, hlt⟩ := id C0
  unfold f_L_bests_303 at h
  refine lv_iload_n hx hb dL_bests_303 rfl (lv_at hl 3 rfl) ?_
  refine lv_if_eq (tgt := 345) hx hb dL_bests_304 (by decide) (fun c1 => ?_) (fun c1 => ?_)
  · have h := zip c1 h
    exact t_L_bests_345 C0 N hN (ch31 := ch31) (c0 := c0) hm31 hk31 (by omega) (by omega) h hW hS (lv_sub hl [0, 1, 2, 4, 5, 6, 7] rfl)
  · have h := zin c1 h
    refine lv_iload hx hb dL_bests_307 (lv_at hl 6 rfl) ?_
    refine lv_if_eq (tgt := 319) hx hb dL_bests_309 (by decide) (fun c2 => ?_) (fun c2 => ?_)
    · have h := zip c2 h
      exact t_L_bests_319 C0 N hN (ch31 := ch31) (c0 := c0) hm31 hk31 (by omega) (by omega) h hW hS (lv_sub hl [0, 1, 2, 4, 5, 6, 7] rfl)
    · have h := zin c2 h
      refine lv_iload hx hb dL_bests_312 (lv_at hl 8 rfl) ?_
      refine lv_iload hx hb dL_bests_314 (lv_at hl 7 rfl) ?_
      refine lv_icmp_ne (tgt := 345) hx hb dL_bests_316 (by decide) (fun c3 => ?_) (fun c3 => ?_)
      · have h := zin c3 h
        exact t_L_bests_345 C0 N hN (ch31 := ch31) (c0 := c0) hm31 hk31 (by omega) (by omega) h hW hS (lv_sub hl [0, 1, 2, 4, 5, 6, 7] rfl)
      · have h := zip c3 h
        exact t_L_bests_319 C0 N hN (ch31 := ch31) (c0 := c0) hm31 hk31 (by omega) (by omega) h hW hS (lv_sub hl [0, 1, 2, 4, 5, 6, 7] rfl)
noncomputable def f_L_bests_294 (N : Nat) (kh190 : Int32 → Int32 → Int32 → Int32 → Int32 → Int32 → Int32 → Int32 → Int32 → yT → Option (Int32 × yT)) (w1 : Int32) (w2 : Int32) (w3 : Int32) (w4 : Int32) (w5 : Int32) (w6 : Int32) (w7 : Int32) (w9 : Int32) (s0 : Int32) (s1 : Int32) (T : yT) : Option (Int32 × yT) :=
kh190 w1 w2 w3 w4 w5 w6 w7 (s1 + s0) (w9 + 1) T
set_option maxRecDepth 100000 in
set_option maxHeartbeats 8000000 in
theorem t_L_bests_294 {p : Program} {l : Launch} {e : Env} {s : State} {m : MethodId} {args : Array Value} {below : List Frame} {meth : Method} {c : Code} {D : va_G} {cy : Nat → ClassId} {x0 lo : Nat} (C0 : yCx p l s m c meth args cL_bests 11 wsM_bests RL (some .boolean) D cy lo) (N : Nat) (hN : 10000000 ≤ N) {kh190 : Int32 → Int32 → Int32 → Int32 → Int32 → Int32 → Int32 → Int32 → Int32 → yT → Option (Int32 × yT)} {ch190 : Nat} {c0 : Nat} {w1 : Int32} {w2 : Int32} {w3 : Int32} {w4 : Int32} {w5 : Int32} {w6 : Int32} {w7 : Int32} {w9 : Int32} {s0 : Int32} {s1 : Int32} {T : yT} {r : Int32} {Tr : yT} (hm190 : ch190 ≤ 434) (hk190 : ∀ {y1 : Int32} {y2 : Int32} {y3 : Int32} {y4 : Int32} {y5 : Int32} {y6 : Int32} {y7 : Int32} {y8 : Int32} {y9 : Int32} {T : yT}, kh190 y1 y2 y3 y4 y5 y6 y7 y8 y9 T = some (r, Tr) → ∀ {H : Heap} {locs : List Loc} {ls : Array Slot}, yWd D cy x0 lo T H → va_S (yA lo) s.heap H locs → lv_has ls 11 [(0, .ref x0), (1, .int y1), (2, .int y2), (3, .int y3), (4, .int y4), (5, .int y5), (6, .int y6), (7, .int y7), (8, .int y8), (9, .int y9)] → W p l e (headSpec wsM_bests ({ frames := 18, cells := 434, slots := 3472, locals := 470 } : Room)).room s m args below meth c H locs (ch190) (8 * (ch190)) (MQ below (yQi D cy x0 lo r Tr) args s 434 3472 (yA lo)) (F0 m 190 ls [])) (hc : c0 + 0 ≤ 434) (he190 : c0 + 0 ≤ ch190) (h : f_L_bests_294 N kh190 w1 w2 w3 w4 w5 w6 w7 w9 s0 s1 T = some (r, Tr)) {H : Heap} {locs : List Loc} {ls : Array Slot} (hW : yWd D cy x0 lo T H) (hS : va_S (yA lo) s.heap H locs) (hl : lv_has ls 11 [(0, .ref x0), (1, .int w1), (2, .int w2), (3, .int w3), (4, .int w4), (5, .int w5), (6, .int w6), (7, .int w7), (9, .int w9)]) : W p l e (headSpec wsM_bests ({ frames := 18, cells := 434, slots := 3472, locals := 470 } : Room)).room s m args below meth c H locs (c0) (8 * (c0)) (MQ below (yQi D cy x0 lo r Tr) args s 434 3472 (yA lo)) (F0 m 294 ls [.int s0, .int s1]) := by
  obtain ⟨hx, hb, hr, hml, hown, hts, hlocks, hK, hE, hlo, hlt⟩ := id C0
  unfold f_L_bests_294 at h
  refine lv_iadd hx hb dL_bests_294 ?_
  refine lv_istore (lv' := [(8, .int (s1 + s0)), (0, .ref x0), (1, .int w1), (2, .int w2), (3, .int w3), (4, .int w4), (5, .int w5), (6, .int w6), (7, .int w7), (9, .int w9)]) hx hb dL_bests_295 hl (by decide) rfl (fun ls hl => ?_)
  refine lv_iinc (k := 9) (v := (w9 + 1)) (lv' := [(9, .int (w9 + 1)), (8, .int (s1 + s0)), (0, .ref x0), (1, .int w1), (2, .int w2), (3, .int w3), (4, .int w4), (5, .int w5), (6, .int w6), (7, .int w7)]) hx hb dL_bests_297 hl rfl (by rw [show Int32.ofInt 1 = (1 : Int32) from by decide]) (by decide) rfl (fun ls hl => ?_)
  refine lv_goto (tgt := 190) hx hb dL_bests_300 (by decide) ?_
  refine W.widen (k := ch190) (n := 8 * ch190) (by omega) (by omega) ?_
  exact hk190 h hW hS (lv_sub hl [2, 3, 4, 5, 6, 7, 8, 9, 1, 0] rfl)
noncomputable def f_L_bests_274 (N : Nat) (kh190 : Int32 → Int32 → Int32 → Int32 → Int32 → Int32 → Int32 → Int32 → Int32 → yT → Option (Int32 × yT)) (w1 : Int32) (w2 : Int32) (w4 : Int32) (w5 : Int32) (w6 : Int32) (w7 : Int32) (w8 : Int32) (w9 : Int32) (w10 : Int32) (s0 : Int32) (T : yT) : Option (Int32 × yT) :=
(if s0 = 0 then
f_L_bests_294 N kh190 w1 w2 s0 w4 w5 w6 w7 w9 (0 : Int32) w8 T
else
zbp (y_X6_score T w1 w10 w9) fun q2 T4 => (
zx q2 (fun _ => none) fun r5 => (
f_L_bests_294 N kh190 w1 w2 s0 w4 w5 w6 w7 w9 r5 w8 T4)))
set_option maxRecDepth 100000 in
set_option maxHeartbeats 8000000 in
theorem t_L_bests_274 {p : Program} {l : Launch} {e : Env} {s : State} {m : MethodId} {args : Array Value} {below : List Frame} {meth : Method} {c : Code} {D : va_G} {cy : Nat → ClassId} {x0 lo : Nat} (C0 : yCx p l s m c meth args cL_bests 11 wsM_bests RL (some .boolean) D cy lo) (N : Nat) (hN : 10000000 ≤ N) {kh190 : Int32 → Int32 → Int32 → Int32 → Int32 → Int32 → Int32 → Int32 → Int32 → yT → Option (Int32 × yT)} {ch190 : Nat} {c0 : Nat} {w1 : Int32} {w2 : Int32} {w4 : Int32} {w5 : Int32} {w6 : Int32} {w7 : Int32} {w8 : Int32} {w9 : Int32} {w10 : Int32} {s0 : Int32} {T : yT} {r : Int32} {Tr : yT} (hm190 : ch190 ≤ 434) (hk190 : ∀ {y1 : Int32} {y2 : Int32} {y3 : Int32} {y4 : Int32} {y5 : Int32} {y6 : Int32} {y7 : Int32} {y8 : Int32} {y9 : Int32} {T : yT}, kh190 y1 y2 y3 y4 y5 y6 y7 y8 y9 T = some (r, Tr) → ∀ {H : Heap} {locs : List Loc} {ls : Array Slot}, yWd D cy x0 lo T H → va_S (yA lo) s.heap H locs → lv_has ls 11 [(0, .ref x0), (1, .int y1), (2, .int y2), (3, .int y3), (4, .int y4), (5, .int y5), (6, .int y6), (7, .int y7), (8, .int y8), (9, .int y9)] → W p l e (headSpec wsM_bests ({ frames := 18, cells := 434, slots := 3472, locals := 470 } : Room)).room s m args below meth c H locs (ch190) (8 * (ch190)) (MQ below (yQi D cy x0 lo r Tr) args s 434 3472 (yA lo)) (F0 m 190 ls [])) (hc : c0 + 3 ≤ 434) (he190 : c0 + 3 ≤ ch190) (h : f_L_bests_274 N kh190 w1 w2 w4 w5 w6 w7 w8 w9 w10 s0 T = some (r, Tr)) {H : Heap} {locs : List Loc} {ls : Array Slot} (hW : yWd D cy x0 lo T H) (hS : va_S (yA lo) s.heap H locs) (hl : lv_has ls 11 [(0, .ref x0), (1, .int w1), (2, .int w2), (4, .int w4), (5, .int w5), (6, .int w6), (7, .int w7), (8, .int w8), (9, .int w9), (10, .int w10)]) : W p l e (headSpec wsM_bests ({ frames := 18, cells := 434, slots := 3472, locals := 470 } : Room)).room s m args below meth c H locs (c0) (8 * (c0)) (MQ below (yQi D cy x0 lo r Tr) args s 434 3472 (yA lo)) (F0 m 274 ls [.int s0]) := by
  obtain ⟨hx, hb, hr, hml, hown, hts, hlocks, hK, hE, hlo, hlt⟩ := id C0
  unfold f_L_bests_274 at h
  refine lv_istore_n (lv' := [(3, .int s0), (0, .ref x0), (1, .int w1), (2, .int w2), (4, .int w4), (5, .int w5), (6, .int w6), (7, .int w7), (8, .int w8), (9, .int w9), (10, .int w10)]) hx hb dL_bests_274 rfl hl (by decide) rfl (fun ls hl => ?_)
  refine lv_iload hx hb dL_bests_275 (lv_at hl 8 rfl) ?_
  refine lv_iload_n hx hb dL_bests_277 rfl (lv_at hl 0 rfl) ?_
  refine lv_if_eq (tgt := 293) hx hb dL_bests_278 (by decide) (fun c1 => ?_) (fun c1 => ?_)
  · have h := zip c1 h
    refine lv_iconst (v := 0) hx hb dL_bests_293 (by decide) ?_
    exact t_L_bests_294 C0 N hN (ch190 := ch190) (c0 := c0) hm190 hk190 (by omega) (by omega) h hW hS (lv_sub hl [1, 2, 3, 0, 4, 5, 6, 7, 9] rfl)
  · have h := zin c1 h
    refine lv_aload_n hx hb dL_bests_281 rfl (lv_at hl 1 rfl) ?_
    refine lv_iload_n hx hb dL_bests_282 rfl (lv_at hl 2 rfl) ?_
    refine lv_iload hx hb dL_bests_283 (lv_at hl 10 rfl) ?_
    refine lv_iload hx hb dL_bests_285 (lv_at hl 9 rfl) ?_
    obtain ⟨q2, T4, e3, h⟩ := zbp_some h
    refine y_xcalli hS (vx_runV (As := [.int w1, .int w10, .int w9]) (rest := [.int w8]) ⟨hx, hb, hml, hown, hts⟩ (n_X6_score l hlt N hN e3) (cwV 3 hts (gM_X6_score wsM_up) rfl rfl rfl (by decide +kernel) ⟨Nat.le_of_ble_eq_true rfl, Nat.le_of_ble_eq_true rfl⟩) (y_preV hK hE hlo hW hS [.int w1, .int w10, .int w9]) rfl rfl hl.1 rfl (lv_room (Nat.le_of_ble_eq_true rfl)) dL_bests_287 ⟨by show c0 + 3 ≤ 434; omega, by show 8 * (c0) + 18 ≤ 3472; omega⟩) (fun k hk H locs q9 ce hW hS hce hcv hcl => by subst hk; cases (show (none : Option (Int32 × yT)) = some (r, Tr) from zx_l h)) (fun r5 hk H locs hW hS => ?_)
    subst hk
    have h := zx_r h
    refine W.widen (k := c0 + 3) (n := 8 * (c0 + 3)) (by omega) (by omega) ?_
    refine lv_goto (tgt := 294) hx hb dL_bests_290 (by decide) ?_
    exact t_L_bests_294 C0 N hN (ch190 := ch190) (c0 := c0 + 3) hm190 hk190 (by omega) (by omega) h hW hS (lv_sub hl [1, 2, 3, 0, 4, 5, 6, 7, 9] rfl)
noncomputable def f_L_bests_273 (N : Nat) (kh190 : Int32 → Int32 → Int32 → Int32 → Int32 → Int32 → Int32 → Int32 → Int32 → yT → Option (Int32 × yT)) (w1 : Int32) (w2 : Int32) (w4 : Int32) (w5 : Int32) (w6 : Int32) (w7 : Int32) (w8 : Int32) (w9 : Int32) (w10 : Int32) (T : yT) : Option (Int32 × yT) :=
f_L_bests_274 N kh190 w1 w2 w4 w5 w6 w7 w8 w9 w10 (0 : Int32) T
set_option maxRecDepth 100000 in
set_option maxHeartbeats 8000000 in
theorem t_L_bests_273 {p : Program} {l : Launch} {e : Env} {s : State} {m : MethodId} {args : Array Value} {below : List Frame} {meth : Method} {c : Code} {D : va_G} {cy : Nat → ClassId} {x0 lo : Nat} (C0 : yCx p l s m c meth args cL_bests 11 wsM_bests RL (some .boolean) D cy lo) (N : Nat) (hN : 10000000 ≤ N) {kh190 : Int32 → Int32 → Int32 → Int32 → Int32 → Int32 → Int32 → Int32 → Int32 → yT → Option (Int32 × yT)} {ch190 : Nat} {c0 : Nat} {w1 : Int32} {w2 : Int32} {w4 : Int32} {w5 : Int32} {w6 : Int32} {w7 : Int32} {w8 : Int32} {w9 : Int32} {w10 : Int32} {T : yT} {r : Int32} {Tr : yT} (hm190 : ch190 ≤ 434) (hk190 : ∀ {y1 : Int32} {y2 : Int32} {y3 : Int32} {y4 : Int32} {y5 : Int32} {y6 : Int32} {y7 : Int32} {y8 : Int32} {y9 : Int32} {T : yT}, kh190 y1 y2 y3 y4 y5 y6 y7 y8 y9 T = some (r, Tr) → ∀ {H : Heap} {locs : List Loc} {ls : Array Slot}, yWd D cy x0 lo T H → va_S (yA lo) s.heap H locs → lv_has ls 11 [(0, .ref x0), (1, .int y1), (2, .int y2), (3, .int y3), (4, .int y4), (5, .int y5), (6, .int y6), (7, .int y7), (8, .int y8), (9, .int y9)] → W p l e (headSpec wsM_bests ({ frames := 18, cells := 434, slots := 3472, locals := 470 } : Room)).room s m args below meth c H locs (ch190) (8 * (ch190)) (MQ below (yQi D cy x0 lo r Tr) args s 434 3472 (yA lo)) (F0 m 190 ls [])) (hc : c0 + 3 ≤ 434) (he190 : c0 + 3 ≤ ch190) (h : f_L_bests_273 N kh190 w1 w2 w4 w5 w6 w7 w8 w9 w10 T = some (r, Tr)) {H : Heap} {locs : List Loc} {ls : Array Slot} (hW : yWd D cy x0 lo T H) (hS : va_S (yA lo) s.heap H locs) (hl : lv_has ls 11 [(0, .ref x0), (1, .int w1), (2, .int w2), (4, .int w4), (5, .int w5), (6, .int w6), (7, .int w7), (8, .int w8), (9, .int w9), (10, .int w10)]) : W p l e (headSpec wsM_bests ({ frames := 18, cells := 434, slots := 3472, locals := 470 } : Room)).room s m args below meth c H locs (c0) (8 * (c0)) (MQ below (yQi D cy x0 lo r Tr) args s 434 3472 (yA lo)) (F0 m 273 ls []) := by
  obtain ⟨hx, hb, hr, hml, hown, hts, hlocks, hK, hE, hlo, hlt⟩ := id C0
  unfold f_L_bests_273 at h
  refine lv_iconst (v := 0) hx hb dL_bests_273 (by decide) ?_
  exact t_L_bests_274 C0 N hN (ch190 := ch190) (c0 := c0) hm190 hk190 (by omega) (by omega) h hW hS (lv_sub hl [0, 1, 2, 3, 4, 5, 6, 7, 8, 9] rfl)
noncomputable def f_L_bests_239 (N : Nat) (kh190 : Int32 → Int32 → Int32 → Int32 → Int32 → Int32 → Int32 → Int32 → Int32 → yT → Option (Int32 × yT)) (w1 : Int32) (w2 : Int32) (w4 : Int32) (w5 : Int32) (w6 : Int32) (w7 : Int32) (w8 : Int32) (w9 : Int32) (w10 : Int32) (s0 : Int32) (s1 : Int32) (T : yT) : Option (Int32 × yT) :=
zbp (y_X6_rankedHead T s1 s0 (0 : Int32) w9) fun q1 T3 => (
zx q1 (fun _ => none) fun r4 => (
(if r4 = w10 then
(if w10 = w9 then
f_L_bests_273 N kh190 w1 w2 w4 w5 w6 w7 w8 w9 w10 T3
else
(if w10 < 0 then
f_L_bests_273 N kh190 w1 w2 w4 w5 w6 w7 w8 w9 w10 T3
else
(if w4 < w10 then
f_L_bests_273 N kh190 w1 w2 w4 w5 w6 w7 w8 w9 w10 T3
else
f_L_bests_274 N kh190 w1 w2 w4 w5 w6 w7 w8 w9 w10 (1 : Int32) T3)))
else
f_L_bests_273 N kh190 w1 w2 w4 w5 w6 w7 w8 w9 w10 T3)))
set_option maxRecDepth 100000 in
set_option maxHeartbeats 8000000 in
theorem t_L_bests_239 {p : Program} {l : Launch} {e : Env} {s : State} {m : MethodId} {args : Array Value} {below : List Frame} {meth : Method} {c : Code} {D : va_G} {cy : Nat → ClassId} {x0 lo : Nat} (C0 : yCx p l s m c meth args cL_bests 11 wsM_bests RL (some .boolean) D cy lo) (N : Nat) (hN : 10000000 ≤ N) {kh190 : Int32 → Int32 → Int32 → Int32 → Int32 → Int32 → Int32 → Int32 → Int32 → yT → Option (Int32 × yT)} {ch190 : Nat} {c0 : Nat} {w1 : Int32} {w2 : Int32} {w4 : Int32} {w5 : Int32} {w6 : Int32} {w7 : Int32} {w8 : Int32} {w9 : Int32} {w10 : Int32} {s0 : Int32} {s1 : Int32} {T : yT} {r : Int32} {Tr : yT} (hm190 : ch190 ≤ 434) (hk190 : ∀ {y1 : Int32} {y2 : Int32} {y3 : Int32} {y4 : Int32} {y5 : Int32} {y6 : Int32} {y7 : Int32} {y8 : Int32} {y9 : Int32} {T : yT}, kh190 y1 y2 y3 y4 y5 y6 y7 y8 y9 T = some (r, Tr) → ∀ {H : Heap} {locs : List Loc} {ls : Array Slot}, yWd D cy x0 lo T H → va_S (yA lo) s.heap H locs → lv_has ls 11 [(0, .ref x0), (1, .int y1), (2, .int y2), (3, .int y3), (4, .int y4), (5, .int y5), (6, .int y6), (7, .int y7), (8, .int y8), (9, .int y9)] → W p l e (headSpec wsM_bests ({ frames := 18, cells := 434, slots := 3472, locals := 470 } : Room)).room s m args below meth c H locs (ch190) (8 * (ch190)) (MQ below (yQi D cy x0 lo r Tr) args s 434 3472 (yA lo)) (F0 m 190 ls [])) (hc : c0 + 6 ≤ 434) (he190 : c0 + 6 ≤ ch190) (h : f_L_bests_239 N kh190 w1 w2 w4 w5 w6 w7 w8 w9 w10 s0 s1 T = some (r, Tr)) {H : Heap} {locs : List Loc} {ls : Array Slot} (hW : yWd D cy x0 lo T H) (hS : va_S (yA lo) s.heap H locs) (hl : lv_has ls 11 [(0, .ref x0), (1, .int w1), (2, .int w2), (4, .int w4), (5, .int w5), (6, .int w6), (7, .int w7), (8, .int w8), (9, .int w9), (10, .int w10)]) : W p l e (headSpec wsM_bests ({ frames := 18, cells := 434, slots := 3472, locals := 470 } : Room)).room s m args below meth c H locs (c0) (8 * (c0)) (MQ below (yQi D cy x0 lo r Tr) args s 434 3472 (yA lo)) (F0 m 239 ls [.int s0, .int s1, .ref x0]) := by
  obtain ⟨hx, hb, hr, hml, hown, hts, hlocks, hK, hE, hlo, hlt⟩ := id C0
  unfold f_L_bests_239 at h
  refine lv_iconst (v := 0) hx hb dL_bests_239 (by decide) ?_
  refine lv_iload hx hb dL_bests_240 (lv_at hl 8 rfl) ?_
  obtain ⟨q1, T3, e2, h⟩ := zbp_some h
  refine y_xcalli hS (vx_runV (As := [.int s1, .int s0, .int (0 : Int32), .int w9]) (rest := []) ⟨hx, hb, hml, hown, hts⟩ (n_X6_rankedHead l hlt N hN e2) (cwV 4 hts (gM_X6_rankedHead wsM_up) rfl rfl rfl (by decide +kernel) ⟨Nat.le_of_ble_eq_true rfl, Nat.le_of_ble_eq_true rfl⟩) (y_preV hK hE hlo hW hS [.int s1, .int s0, .int (0 : Int32), .int w9]) rfl rfl hl.1 rfl (lv_room (Nat.le_of_ble_eq_true rfl)) dL_bests_242 ⟨by show c0 + 3 ≤ 434; omega, by show 8 * (c0) + 18 ≤ 3472; omega⟩) (fun k hk H locs q9 ce hW hS hce hcv hcl => by subst hk; cases (show (none : Option (Int32 × yT)) = some (r, Tr) from zx_l h)) (fun r4 hk H locs hW hS => ?_)
  subst hk
  have h := zx_r h
  refine W.widen (k := c0 + 3) (n := 8 * (c0 + 3)) (by omega) (by omega) ?_
  refine lv_iload hx hb dL_bests_245 (lv_at hl 9 rfl) ?_
  refine lv_icmp_ne (tgt := 273) hx hb dL_bests_247 (by decide) (fun c5 => ?_) (fun c5 => ?_)
  · have h := zin c5 h
    exact t_L_bests_273 C0 N hN (ch190 := ch190) (c0 := c0 + 3) hm190 hk190 (by omega) (by omega) h hW hS (lv_sub hl [0, 1, 2, 3, 4, 5, 6, 7, 8, 9] rfl)
  · have h := zip c5 h
    refine lv_iload hx hb dL_bests_250 (lv_at hl 9 rfl) ?_
    refine lv_iload hx hb dL_bests_252 (lv_at hl 8 rfl) ?_
    refine lv_icmp_eq (tgt := 273) hx hb dL_bests_254 (by decide) (fun c6 => ?_) (fun c6 => ?_)
    · have h := zip c6 h
      exact t_L_bests_273 C0 N hN (ch190 := ch190) (c0 := c0 + 3) hm190 hk190 (by omega) (by omega) h hW hS (lv_sub hl [0, 1, 2, 3, 4, 5, 6, 7, 8, 9] rfl)
    · have h := zin c6 h
      refine lv_iload hx hb dL_bests_257 (lv_at hl 9 rfl) ?_
      refine lv_if_lt (tgt := 273) hx hb dL_bests_259 (by decide) (fun c7 => ?_) (fun c7 => ?_)
      · have h := zip c7 h
        exact t_L_bests_273 C0 N hN (ch190 := ch190) (c0 := c0 + 3) hm190 hk190 (by omega) (by omega) h hW hS (lv_sub hl [0, 1, 2, 3, 4, 5, 6, 7, 8, 9] rfl)
      · have h := zin c7 h
        refine lv_iload hx hb dL_bests_262 (lv_at hl 9 rfl) ?_
        refine lv_iload hx hb dL_bests_264 (lv_at hl 3 rfl) ?_
        refine lv_icmp_gt (tgt := 273) hx hb dL_bests_266 (by decide) (fun c8 => ?_) (fun c8 => ?_)
        · have h := zip c8 h
          exact t_L_bests_273 C0 N hN (ch190 := ch190) (c0 := c0 + 3) hm190 hk190 (by omega) (by omega) h hW hS (lv_sub hl [0, 1, 2, 3, 4, 5, 6, 7, 8, 9] rfl)
        · have h := zin c8 h
          refine lv_iconst (v := 1) hx hb dL_bests_269 (by decide) ?_
          refine lv_goto (tgt := 274) hx hb dL_bests_270 (by decide) ?_
          exact t_L_bests_274 C0 N hN (ch190 := ch190) (c0 := c0 + 3) hm190 hk190 (by omega) (by omega) h hW hS (lv_sub hl [0, 1, 2, 3, 4, 5, 6, 7, 8, 9] rfl)
noncomputable def f_L_bests_219 (N : Nat) (kh190 : Int32 → Int32 → Int32 → Int32 → Int32 → Int32 → Int32 → Int32 → Int32 → yT → Option (Int32 × yT)) (w1 : Int32) (w2 : Int32) (w4 : Int32) (w5 : Int32) (w6 : Int32) (w7 : Int32) (w8 : Int32) (w9 : Int32) (s0 : Int32) (s1 : Int32) (T : yT) : Option (Int32 × yT) :=
zbp (y_X6_head T s1 s0 w9) fun q1 T3 => (
zx q1 (fun _ => none) fun r4 => (
(if w5 = (1 : Int32) then
f_L_bests_239 N kh190 w1 w2 w4 w5 w6 w7 w8 w9 r4 (1 : Int32) w1 T3
else
f_L_bests_239 N kh190 w1 w2 w4 w5 w6 w7 w8 w9 r4 (0 : Int32) w1 T3)))
set_option maxRecDepth 100000 in
set_option maxHeartbeats 8000000 in
theorem t_L_bests_219 {p : Program} {l : Launch} {e : Env} {s : State} {m : MethodId} {args : Array Value} {below : List Frame} {meth : Method} {c : Code} {D : va_G} {cy : Nat → ClassId} {x0 lo : Nat} (C0 : yCx p l s m c meth args cL_bests 11 wsM_bests RL (some .boolean) D cy lo) (N : Nat) (hN : 10000000 ≤ N) {kh190 : Int32 → Int32 → Int32 → Int32 → Int32 → Int32 → Int32 → Int32 → Int32 → yT → Option (Int32 × yT)} {ch190 : Nat} {c0 : Nat} {w1 : Int32} {w2 : Int32} {w4 : Int32} {w5 : Int32} {w6 : Int32} {w7 : Int32} {w8 : Int32} {w9 : Int32} {s0 : Int32} {s1 : Int32} {T : yT} {r : Int32} {Tr : yT} (hm190 : ch190 ≤ 434) (hk190 : ∀ {y1 : Int32} {y2 : Int32} {y3 : Int32} {y4 : Int32} {y5 : Int32} {y6 : Int32} {y7 : Int32} {y8 : Int32} {y9 : Int32} {T : yT}, kh190 y1 y2 y3 y4 y5 y6 y7 y8 y9 T = some (r, Tr) → ∀ {H : Heap} {locs : List Loc} {ls : Array Slot}, yWd D cy x0 lo T H → va_S (yA lo) s.heap H locs → lv_has ls 11 [(0, .ref x0), (1, .int y1), (2, .int y2), (3, .int y3), (4, .int y4), (5, .int y5), (6, .int y6), (7, .int y7), (8, .int y8), (9, .int y9)] → W p l e (headSpec wsM_bests ({ frames := 18, cells := 434, slots := 3472, locals := 470 } : Room)).room s m args below meth c H locs (ch190) (8 * (ch190)) (MQ below (yQi D cy x0 lo r Tr) args s 434 3472 (yA lo)) (F0 m 190 ls [])) (hc : c0 + 9 ≤ 434) (he190 : c0 + 9 ≤ ch190) (h : f_L_bests_219 N kh190 w1 w2 w4 w5 w6 w7 w8 w9 s0 s1 T = some (r, Tr)) {H : Heap} {locs : List Loc} {ls : Array Slot} (hW : yWd D cy x0 lo T H) (hS : va_S (yA lo) s.heap H locs) (hl : lv_has ls 11 [(0, .ref x0), (1, .int w1), (2, .int w2), (4, .int w4), (5, .int w5), (6, .int w6), (7, .int w7), (8, .int w8), (9, .int w9)]) : W p l e (headSpec wsM_bests ({ frames := 18, cells := 434, slots := 3472, locals := 470 } : Room)).room s m args below meth c H locs (c0) (8 * (c0)) (MQ below (yQi D cy x0 lo r Tr) args s 434 3472 (yA lo)) (F0 m 219 ls [.int s0, .int s1, .ref x0]) := by
  obtain ⟨hx, hb, hr, hml, hown, hts, hlocks, hK, hE, hlo, hlt⟩ := id C0
  unfold f_L_bests_219 at h
  refine lv_iload hx hb dL_bests_219 (lv_at hl 8 rfl) ?_
  obtain ⟨q1, T3, e2, h⟩ := zbp_some h
  refine y_xcalli hS (vx_runV (As := [.int s1, .int s0, .int w9]) (rest := []) ⟨hx, hb, hml, hown, hts⟩ (n_X6_head l hlt N hN e2) (cwV 3 hts (gM_X6_head wsM_up) rfl rfl rfl (by decide +kernel) ⟨Nat.le_of_ble_eq_true rfl, Nat.le_of_ble_eq_true rfl⟩) (y_preV hK hE hlo hW hS [.int s1, .int s0, .int w9]) rfl rfl hl.1 rfl (lv_room (Nat.le_of_ble_eq_true rfl)) dL_bests_221 ⟨by show c0 + 3 ≤ 434; omega, by show 8 * (c0) + 18 ≤ 3472; omega⟩) (fun k hk H locs q9 ce hW hS hce hcv hcl => by subst hk; cases (show (none : Option (Int32 × yT)) = some (r, Tr) from zx_l h)) (fun r4 hk H locs hW hS => ?_)
  subst hk
  have h := zx_r h
  refine W.widen (k := c0 + 3) (n := 8 * (c0 + 3)) (by omega) (by omega) ?_
  refine lv_istore (lv' := [(10, .int r4), (0, .ref x0), (1, .int w1), (2, .int w2), (4, .int w4), (5, .int w5), (6, .int w6), (7, .int w7), (8, .int w8), (9, .int w9)]) hx hb dL_bests_224 hl (by decide) rfl (fun ls hl => ?_)
  refine lv_aload_n hx hb dL_bests_226 rfl (lv_at hl 1 rfl) ?_
  refine lv_iload_n hx hb dL_bests_227 rfl (lv_at hl 2 rfl) ?_
  refine lv_iload hx hb dL_bests_228 (lv_at hl 5 rfl) ?_
  refine lv_iconst (v := 1) hx hb dL_bests_230 (by decide) ?_
  refine lv_icmp_ne (tgt := 238) hx hb dL_bests_231 (by decide) (fun c5 => ?_) (fun c5 => ?_)
  · have h := zin c5 h
    refine lv_iconst (v := 0) hx hb dL_bests_238 (by decide) ?_
    exact t_L_bests_239 C0 N hN (ch190 := ch190) (c0 := c0 + 3) hm190 hk190 (by omega) (by omega) h hW hS (lv_sub hl [1, 2, 3, 4, 5, 6, 7, 8, 9, 0] rfl)
  · have h := zip c5 h
    refine lv_iconst (v := 1) hx hb dL_bests_234 (by decide) ?_
    refine lv_goto (tgt := 239) hx hb dL_bests_235 (by decide) ?_
    exact t_L_bests_239 C0 N hN (ch190 := ch190) (c0 := c0 + 3) hm190 hk190 (by omega) (by omega) h hW hS (lv_sub hl [1, 2, 3, 4, 5, 6, 7, 8, 9, 0] rfl)
noncomputable def f_L_bests_190 (N : Nat) (kh31 : Int32 → Int32 → Int32 → Int32 → Int32 → yT → Option (Int32 × yT)) : Nat → Int32 → Int32 → Int32 → Int32 → Int32 → Int32 → Int32 → Int32 → Int32 → yT → Option (Int32 × yT)
  | 0, _, _, _, _, _, _, _, _, _, _ => none
  | n + 1, w1, w2, w3, w4, w5, w6, w7, w8, w9, T =>
    (if w4 < w9 then
    f_L_bests_303 N kh31 w1 w2 w3 w4 w5 w6 w7 w8 T
    else
    (if w3 = 0 then
    f_L_bests_303 N kh31 w1 w2 w3 w4 w5 w6 w7 w8 T
    else
    (if w6 ≤ 0 then
    f_L_bests_303 N kh31 w1 w2 w3 w4 w5 w6 w7 w8 T
    else
    (if w5 = (1 : Int32) then
    f_L_bests_219 N (fun y1 y2 y3 y4 y5 y6 y7 y8 y9 T => f_L_bests_190 N kh31 n y1 y2 y3 y4 y5 y6 y7 y8 y9 T) w1 w2 w4 w5 w6 w7 w8 w9 (1 : Int32) w1 T
    else
    f_L_bests_219 N (fun y1 y2 y3 y4 y5 y6 y7 y8 y9 T => f_L_bests_190 N kh31 n y1 y2 y3 y4 y5 y6 y7 y8 y9 T) w1 w2 w4 w5 w6 w7 w8 w9 (0 : Int32) w1 T))))
set_option maxRecDepth 100000 in
set_option maxHeartbeats 8000000 in
theorem t_L_bests_190 {p : Program} {l : Launch} {e : Env} {s : State} {m : MethodId} {args : Array Value} {below : List Frame} {meth : Method} {c : Code} {D : va_G} {cy : Nat → ClassId} {x0 lo : Nat} (C0 : yCx p l s m c meth args cL_bests 11 wsM_bests RL (some .boolean) D cy lo) (N : Nat) (hN : 10000000 ≤ N) {kh31 : Int32 → Int32 → Int32 → Int32 → Int32 → yT → Option (Int32 × yT)} {ch31 : Nat} {r : Int32} {Tr : yT} (hm31 : ch31 ≤ 434) (hk31 : ∀ {y1 : Int32} {y2 : Int32} {y3 : Int32} {y4 : Int32} {y5 : Int32} {T : yT}, kh31 y1 y2 y3 y4 y5 T = some (r, Tr) → ∀ {H : Heap} {locs : List Loc} {ls : Array Slot}, yWd D cy x0 lo T H → va_S (yA lo) s.heap H locs → lv_has ls 11 [(0, .ref x0), (1, .int y1), (2, .int y2), (3, .int y3), (4, .int y4), (5, .int y5)] → W p l e (headSpec wsM_bests ({ frames := 18, cells := 434, slots := 3472, locals := 470 } : Room)).room s m args below meth c H locs (ch31) (8 * (ch31)) (MQ below (yQi D cy x0 lo r Tr) args s 434 3472 (yA lo)) (F0 m 31 ls [])) : ∀ (n c0 : Nat) {w1 : Int32} {w2 : Int32} {w3 : Int32} {w4 : Int32} {w5 : Int32} {w6 : Int32} {w7 : Int32} {w8 : Int32} {w9 : Int32} {T : yT}, c0 + n * 9 + 8 ≤ 434 → c0 + n * 9 + 8 ≤ ch31 → f_L_bests_190 N kh31 n w1 w2 w3 w4 w5 w6 w7 w8 w9 T = some (r, Tr) → ∀ {H : Heap} {locs : List Loc} {ls : Array Slot}, yWd D cy x0 lo T H → va_S (yA lo) s.heap H locs → lv_has ls 11 [(0, .ref x0), (1, .int w1), (2, .int w2), (3, .int w3), (4, .int w4), (5, .int w5), (6, .int w6), (7, .int w7), (8, .int w8), (9, .int w9)] → W p l e (headSpec wsM_bests ({ frames := 18, cells := 434, slots := 3472, locals := 470 } : Room)).room s m args below meth c H locs (c0) (8 * (c0)) (MQ below (yQi D cy x0 lo r Tr) args s 434 3472 (yA lo)) (F0 m 190 ls []) := by
  obtain ⟨hx, hb, hr, hml, hown, hts, hlocks, hK, hE, hlo, hlt⟩ := id C0
  intro n
  induction n with
  | zero =>
    intro c0 w1 w2 w3 w4 w5 w6 w7 w8 w9 T hc he31 h
    cases (show (none : Option (Int32 × yT)) = some (r, Tr) from h)
  | succ n ih =>
    intro c0 w1 w2 w3 w4 w5 w6 w7 w8 w9 T hc he31 h H locs ls hW hS hl
    rw [f_L_bests_190] at h
    refine lv_iload hx hb dL_bests_190 (lv_at hl 9 rfl) ?_
    refine lv_iload hx hb dL_bests_192 (lv_at hl 4 rfl) ?_
    refine lv_icmp_gt (tgt := 303) hx hb dL_bests_194 (by decide) (fun c1 => ?_) (fun c1 => ?_)
    · have h := zip c1 h
      exact t_L_bests_303 C0 N hN (ch31 := ch31) (c0 := c0) hm31 hk31 (by omega) (by omega) h hW hS (lv_sub hl [0, 1, 2, 3, 4, 5, 6, 7, 8] rfl)
    · have h := zin c1 h
      refine lv_iload_n hx hb dL_bests_197 rfl (lv_at hl 3 rfl) ?_
      refine lv_if_eq (tgt := 303) hx hb dL_bests_198 (by decide) (fun c2 => ?_) (fun c2 => ?_)
      · have h := zip c2 h
        exact t_L_bests_303 C0 N hN (ch31 := ch31) (c0 := c0) hm31 hk31 (by omega) (by omega) h hW hS (lv_sub hl [0, 1, 2, 3, 4, 5, 6, 7, 8] rfl)
      · have h := zin c2 h
        refine lv_iload hx hb dL_bests_201 (lv_at hl 6 rfl) ?_
        refine lv_if_le (tgt := 303) hx hb dL_bests_203 (by decide) (fun c3 => ?_) (fun c3 => ?_)
        · have h := zip c3 h
          exact t_L_bests_303 C0 N hN (ch31 := ch31) (c0 := c0) hm31 hk31 (by omega) (by omega) h hW hS (lv_sub hl [0, 1, 2, 3, 4, 5, 6, 7, 8] rfl)
        · have h := zin c3 h
          refine lv_aload_n hx hb dL_bests_206 rfl (lv_at hl 0 rfl) ?_
          refine lv_iload_n hx hb dL_bests_207 rfl (lv_at hl 1 rfl) ?_
          refine lv_iload hx hb dL_bests_208 (lv_at hl 5 rfl) ?_
          refine lv_iconst (v := 1) hx hb dL_bests_210 (by decide) ?_
          refine lv_icmp_ne (tgt := 218) hx hb dL_bests_211 (by decide) (fun c4 => ?_) (fun c4 => ?_)
          · have h := zin c4 h
            refine lv_iconst (v := 0) hx hb dL_bests_218 (by decide) ?_
            exact t_L_bests_219 C0 N hN (ch190 := c0 + 9) (c0 := c0) (by omega) (fun h _ _ _ hW hS hl => ih (c0 + 9) (by omega) (by omega) h hW hS hl) (by omega) (by omega) h hW hS (lv_sub hl [0, 1, 2, 4, 5, 6, 7, 8, 9] rfl)
          · have h := zip c4 h
            refine lv_iconst (v := 1) hx hb dL_bests_214 (by decide) ?_
            refine lv_goto (tgt := 219) hx hb dL_bests_215 (by decide) ?_
            exact t_L_bests_219 C0 N hN (ch190 := c0 + 9) (c0 := c0) (by omega) (fun h _ _ _ hW hS hl => ih (c0 + 9) (by omega) (by omega) h hW hS hl) (by omega) (by omega) h hW hS (lv_sub hl [0, 1, 2, 4, 5, 6, 7, 8, 9] rfl)
noncomputable def f_L_bests_183 (N : Nat) (kh31 : Int32 → Int32 → Int32 → Int32 → Int32 → yT → Option (Int32 × yT)) (w1 : Int32) (w2 : Int32) (w4 : Int32) (w5 : Int32) (w6 : Int32) (w7 : Int32) (s0 : Int32) (T : yT) : Option (Int32 × yT) :=
f_L_bests_190 N kh31 8 w1 w2 s0 w4 w5 w6 w7 (0 : Int32) (1 : Int32) T
set_option maxRecDepth 100000 in
set_option maxHeartbeats 8000000 in
theorem t_L_bests_183 {p : Program} {l : Launch} {e : Env} {s : State} {m : MethodId} {args : Array Value} {below : List Frame} {meth : Method} {c : Code} {D : va_G} {cy : Nat → ClassId} {x0 lo : Nat} (C0 : yCx p l s m c meth args cL_bests 11 wsM_bests RL (some .boolean) D cy lo) (N : Nat) (hN : 10000000 ≤ N) {kh31 : Int32 → Int32 → Int32 → Int32 → Int32 → yT → Option (Int32 × yT)} {ch31 : Nat} {c0 : Nat} {w1 : Int32} {w2 : Int32} {w4 : Int32} {w5 : Int32} {w6 : Int32} {w7 : Int32} {s0 : Int32} {T : yT} {r : Int32} {Tr : yT} (hm31 : ch31 ≤ 434) (hk31 : ∀ {y1 : Int32} {y2 : Int32} {y3 : Int32} {y4 : Int32} {y5 : Int32} {T : yT}, kh31 y1 y2 y3 y4 y5 T = some (r, Tr) → ∀ {H : Heap} {locs : List Loc} {ls : Array Slot}, yWd D cy x0 lo T H → va_S (yA lo) s.heap H locs → lv_has ls 11 [(0, .ref x0), (1, .int y1), (2, .int y2), (3, .int y3), (4, .int y4), (5, .int y5)] → W p l e (headSpec wsM_bests ({ frames := 18, cells := 434, slots := 3472, locals := 470 } : Room)).room s m args below meth c H locs (ch31) (8 * (ch31)) (MQ below (yQi D cy x0 lo r Tr) args s 434 3472 (yA lo)) (F0 m 31 ls [])) (hc : c0 + 80 ≤ 434) (he31 : c0 + 80 ≤ ch31) (h : f_L_bests_183 N kh31 w1 w2 w4 w5 w6 w7 s0 T = some (r, Tr)) {H : Heap} {locs : List Loc} {ls : Array Slot} (hW : yWd D cy x0 lo T H) (hS : va_S (yA lo) s.heap H locs) (hl : lv_has ls 11 [(0, .ref x0), (1, .int w1), (2, .int w2), (4, .int w4), (5, .int w5), (6, .int w6), (7, .int w7)]) : W p l e (headSpec wsM_bests ({ frames := 18, cells := 434, slots := 3472, locals := 470 } : Room)).room s m args below meth c H locs (c0) (8 * (c0)) (MQ below (yQi D cy x0 lo r Tr) args s 434 3472 (yA lo)) (F0 m 183 ls [.int s0]) := by
  obtain ⟨hx, hb, hr, hml, hown, hts, hlocks, hK, hE, hlo, hlt⟩ := id C0
  unfold f_L_bests_183 at h
  refine lv_istore_n (lv' := [(3, .int s0), (0, .ref x0), (1, .int w1), (2, .int w2), (4, .int w4), (5, .int w5), (6, .int w6), (7, .int w7)]) hx hb dL_bests_183 rfl hl (by decide) rfl (fun ls hl => ?_)
  refine lv_iconst (v := 0) hx hb dL_bests_184 (by decide) ?_
  refine lv_istore (lv' := [(8, .int (0 : Int32)), (3, .int s0), (0, .ref x0), (1, .int w1), (2, .int w2), (4, .int w4), (5, .int w5), (6, .int w6), (7, .int w7)]) hx hb dL_bests_185 hl (by decide) rfl (fun ls hl => ?_)
  refine lv_iconst (v := 1) hx hb dL_bests_187 (by decide) ?_
  refine lv_istore (lv' := [(9, .int (1 : Int32)), (8, .int (0 : Int32)), (3, .int s0), (0, .ref x0), (1, .int w1), (2, .int w2), (4, .int w4), (5, .int w5), (6, .int w6), (7, .int w7)]) hx hb dL_bests_188 hl (by decide) rfl (fun ls hl => ?_)
  exact t_L_bests_190 C0 N hN (ch31 := ch31) hm31 hk31 8 (c0) (by omega) (by omega) h hW hS (lv_sub hl [3, 4, 5, 2, 6, 7, 8, 9, 1, 0] rfl)
noncomputable def f_L_bests_182 (N : Nat) (kh31 : Int32 → Int32 → Int32 → Int32 → Int32 → yT → Option (Int32 × yT)) (w1 : Int32) (w2 : Int32) (w4 : Int32) (w5 : Int32) (w6 : Int32) (w7 : Int32) (T : yT) : Option (Int32 × yT) :=
f_L_bests_183 N kh31 w1 w2 w4 w5 w6 w7 (0 : Int32) T
set_option maxRecDepth 100000 in
set_option maxHeartbeats 8000000 in
theorem t_L_bests_182 {p : Program} {l : Launch} {e : Env} {s : State} {m : MethodId} {args : Array Value} {below : List Frame} {meth : Method} {c : Code} {D : va_G} {cy : Nat → ClassId} {x0 lo : Nat} (C0 : yCx p l s m c meth args cL_bests 11 wsM_bests RL (some .boolean) D cy lo) (N : Nat) (hN : 10000000 ≤ N) {kh31 : Int32 → Int32 → Int32 → Int32 → Int32 → yT → Option (Int32 × yT)} {ch31 : Nat} {c0 : Nat} {w1 : Int32} {w2 : Int32} {w4 : Int32} {w5 : Int32} {w6 : Int32} {w7 : Int32} {T : yT} {r : Int32} {Tr : yT} (hm31 : ch31 ≤ 434) (hk31 : ∀ {y1 : Int32} {y2 : Int32} {y3 : Int32} {y4 : Int32} {y5 : Int32} {T : yT}, kh31 y1 y2 y3 y4 y5 T = some (r, Tr) → ∀ {H : Heap} {locs : List Loc} {ls : Array Slot}, yWd D cy x0 lo T H → va_S (yA lo) s.heap H locs → lv_has ls 11 [(0, .ref x0), (1, .int y1), (2, .int y2), (3, .int y3), (4, .int y4), (5, .int y5)] → W p l e (headSpec wsM_bests ({ frames := 18, cells := 434, slots := 3472, locals := 470 } : Room)).room s m args below meth c H locs (ch31) (8 * (ch31)) (MQ below (yQi D cy x0 lo r Tr) args s 434 3472 (yA lo)) (F0 m 31 ls [])) (hc : c0 + 80 ≤ 434) (he31 : c0 + 80 ≤ ch31) (h : f_L_bests_182 N kh31 w1 w2 w4 w5 w6 w7 T = some (r, Tr)) {H : Heap} {locs : List Loc} {ls : Array Slot} (hW : yWd D cy x0 lo T H) (hS : va_S (yA lo) s.heap H locs) (hl : lv_has ls 11 [(0, .ref x0), (1, .int w1), (2, .int w2), (4, .int w4), (5, .int w5), (6, .int w6), (7, .int w7)]) : W p l e (headSpec wsM_bests ({ frames := 18, cells := 434, slots := 3472, locals := 470 } : Room)).room s m args below meth c H locs (c0) (8 * (c0)) (MQ below (yQi D cy x0 lo r Tr) args s 434 3472 (yA lo)) (F0 m 182 ls []) := by
  obtain ⟨hx, hb, hr, hml, hown, hts, hlocks, hK, hE, hlo, hlt⟩ := id C0
  unfold f_L_bests_182 at h
  refine lv_iconst (v := 0) hx hb dL_bests_182 (by decide) ?_
  exact t_L_bests_183 C0 N hN (ch31 := ch31) (c0 := c0) hm31 hk31 (by omega) (by omega) h hW hS (lv_sub hl [0, 1, 2, 3, 4, 5, 6] rfl)
noncomputable def f_L_bests_178 (N : Nat) (kh31 : Int32 → Int32 → Int32 → Int32 → Int32 → yT → Option (Int32 × yT)) (w1 : Int32) (w2 : Int32) (w4 : Int32) (w5 : Int32) (w6 : Int32) (w7 : Int32) (T : yT) : Option (Int32 × yT) :=
f_L_bests_183 N kh31 w1 w2 w4 w5 w6 w7 (1 : Int32) T
set_option maxRecDepth 100000 in
set_option maxHeartbeats 8000000 in
theorem t_L_bests_178 {p : Program} {l : Launch} {e : Env} {s : State} {m : MethodId} {args : Array Value} {below : List Frame} {meth : Method} {c : Code} {D : va_G} {cy : Nat → ClassId} {x0 lo : Nat} (C0 : yCx p l s m c meth args cL_bests 11 wsM_bests RL (some .boolean) D cy lo) (N : Nat) (hN : 10000000 ≤ N) {kh31 : Int32 → Int32 → Int32 → Int32 → Int32 → yT → Option (Int32 × yT)} {ch31 : Nat} {c0 : Nat} {w1 : Int32} {w2 : Int32} {w4 : Int32} {w5 : Int32} {w6 : Int32} {w7 : Int32} {T : yT} {r : Int32} {Tr : yT} (hm31 : ch31 ≤ 434) (hk31 : ∀ {y1 : Int32} {y2 : Int32} {y3 : Int32} {y4 : Int32} {y5 : Int32} {T : yT}, kh31 y1 y2 y3 y4 y5 T = some (r, Tr) → ∀ {H : Heap} {locs : List Loc} {ls : Array Slot}, yWd D cy x0 lo T H → va_S (yA lo) s.heap H locs → lv_has ls 11 [(0, .ref x0), (1, .int y1), (2, .int y2), (3, .int y3), (4, .int y4), (5, .int y5)] → W p l e (headSpec wsM_bests ({ frames := 18, cells := 434, slots := 3472, locals := 470 } : Room)).room s m args below meth c H locs (ch31) (8 * (ch31)) (MQ below (yQi D cy x0 lo r Tr) args s 434 3472 (yA lo)) (F0 m 31 ls [])) (hc : c0 + 80 ≤ 434) (he31 : c0 + 80 ≤ ch31) (h : f_L_bests_178 N kh31 w1 w2 w4 w5 w6 w7 T = some (r, Tr)) {H : Heap} {locs : List Loc} {ls : Array Slot} (hW : yWd D cy x0 lo T H) (hS : va_S (yA lo) s.heap H locs) (hl : lv_has ls 11 [(0, .ref x0), (1, .int w1), (2, .int w2), (4, .int w4), (5, .int w5), (6, .int w6), (7, .int w7)]) : W p l e (headSpec wsM_bests ({ frames := 18, cells := 434, slots := 3472, locals := 470 } : Room)).room s m args below meth c H locs (c0) (8 * (c0)) (MQ below (yQi D cy x0 lo r Tr) args s 434 3472 (yA lo)) (F0 m 178 ls []) := by
  obtain ⟨hx, hb, hr, hml, hown, hts, hlocks, hK, hE, hlo, hlt⟩ := id C0
  unfold f_L_bests_178 at h
  refine lv_iconst (v := 1) hx hb dL_bests_178 (by decide) ?_
  refine lv_goto (tgt := 183) hx hb dL_bests_179 (by decide) ?_
  exact t_L_bests_183 C0 N hN (ch31 := ch31) (c0 := c0) hm31 hk31 (by omega) (by omega) h hW hS (lv_sub hl [0, 1, 2, 3, 4, 5, 6] rfl)
noncomputable def f_L_bests_141 (N : Nat) (kh31 : Int32 → Int32 → Int32 → Int32 → Int32 → yT → Option (Int32 × yT)) (w1 : Int32) (w2 : Int32) (w4 : Int32) (w5 : Int32) (w6 : Int32) (w7 : Int32) (s0 : Int32) (s1 : Int32) (T : yT) : Option (Int32 × yT) :=
zbp (y_X6_ranked T s1 s0 (0 : Int32)) fun q1 T3 => (
zx q1 (fun _ => none) fun r4 => (
(if r4 = w7 then
f_L_bests_178 N kh31 w1 w2 w4 w5 w6 w7 T3
else
f_L_bests_182 N kh31 w1 w2 w4 w5 w6 w7 T3)))
set_option maxRecDepth 100000 in
set_option maxHeartbeats 8000000 in
theorem t_L_bests_141 {p : Program} {l : Launch} {e : Env} {s : State} {m : MethodId} {args : Array Value} {below : List Frame} {meth : Method} {c : Code} {D : va_G} {cy : Nat → ClassId} {x0 lo : Nat} (C0 : yCx p l s m c meth args cL_bests 11 wsM_bests RL (some .boolean) D cy lo) (N : Nat) (hN : 10000000 ≤ N) {kh31 : Int32 → Int32 → Int32 → Int32 → Int32 → yT → Option (Int32 × yT)} {ch31 : Nat} {c0 : Nat} {w1 : Int32} {w2 : Int32} {w4 : Int32} {w5 : Int32} {w6 : Int32} {w7 : Int32} {s0 : Int32} {s1 : Int32} {T : yT} {r : Int32} {Tr : yT} (hm31 : ch31 ≤ 434) (hk31 : ∀ {y1 : Int32} {y2 : Int32} {y3 : Int32} {y4 : Int32} {y5 : Int32} {T : yT}, kh31 y1 y2 y3 y4 y5 T = some (r, Tr) → ∀ {H : Heap} {locs : List Loc} {ls : Array Slot}, yWd D cy x0 lo T H → va_S (yA lo) s.heap H locs → lv_has ls 11 [(0, .ref x0), (1, .int y1), (2, .int y2), (3, .int y3), (4, .int y4), (5, .int y5)] → W p l e (headSpec wsM_bests ({ frames := 18, cells := 434, slots := 3472, locals := 470 } : Room)).room s m args below meth c H locs (ch31) (8 * (ch31)) (MQ below (yQi D cy x0 lo r Tr) args s 434 3472 (yA lo)) (F0 m 31 ls [])) (hc : c0 + 82 ≤ 434) (he31 : c0 + 82 ≤ ch31) (h : f_L_bests_141 N kh31 w1 w2 w4 w5 w6 w7 s0 s1 T = some (r, Tr)) {H : Heap} {locs : List Loc} {ls : Array Slot} (hW : yWd D cy x0 lo T H) (hS : va_S (yA lo) s.heap H locs) (hl : lv_has ls 11 [(0, .ref x0), (1, .int w1), (2, .int w2), (4, .int w4), (5, .int w5), (6, .int w6), (7, .int w7)]) : W p l e (headSpec wsM_bests ({ frames := 18, cells := 434, slots := 3472, locals := 470 } : Room)).room s m args below meth c H locs (c0) (8 * (c0)) (MQ below (yQi D cy x0 lo r Tr) args s 434 3472 (yA lo)) (F0 m 141 ls [.int s0, .int s1, .ref x0]) := by
  obtain ⟨hx, hb, hr, hml, hown, hts, hlocks, hK, hE, hlo, hlt⟩ := id C0
  unfold f_L_bests_141 at h
  refine lv_iconst (v := 0) hx hb dL_bests_141 (by decide) ?_
  obtain ⟨q1, T3, e2, h⟩ := zbp_some h
  refine y_xcalli hS (vx_runV (As := [.int s1, .int s0, .int (0 : Int32)]) (rest := []) ⟨hx, hb, hml, hown, hts⟩ (n_X6_ranked l hlt N hN e2) (cwV 3 hts (gM_X6_ranked wsM_up) rfl rfl rfl (by decide +kernel) ⟨Nat.le_of_ble_eq_true rfl, Nat.le_of_ble_eq_true rfl⟩) (y_preV hK hE hlo hW hS [.int s1, .int s0, .int (0 : Int32)]) rfl rfl hl.1 rfl (lv_room (Nat.le_of_ble_eq_true rfl)) dL_bests_142 ⟨by show c0 + 2 ≤ 434; omega, by show 8 * (c0) + 12 ≤ 3472; omega⟩) (fun k hk H locs q9 ce hW hS hce hcv hcl => by subst hk; cases (show (none : Option (Int32 × yT)) = some (r, Tr) from zx_l h)) (fun r4 hk H locs hW hS => ?_)
  subst hk
  have h := zx_r h
  refine W.widen (k := c0 + 2) (n := 8 * (c0 + 2)) (by omega) (by omega) ?_
  refine lv_iload hx hb dL_bests_145 (lv_at hl 6 rfl) ?_
  refine lv_icmp_ne (tgt := 182) hx hb dL_bests_147 (by decide) (fun c5 => ?_) (fun c5 => ?_)
  · have h := zin c5 h
    exact t_L_bests_182 C0 N hN (ch31 := ch31) (c0 := c0 + 2) hm31 hk31 (by omega) (by omega) h hW hS (lv_sub hl [0, 1, 2, 3, 4, 5, 6] rfl)
  · have h := zip c5 h
    refine lv_goto (tgt := 178) hx hb dL_bests_150 (by decide) ?_
    exact t_L_bests_178 C0 N hN (ch31 := ch31) (c0 := c0 + 2) hm31 hk31 (by omega) (by omega) h hW hS (lv_sub hl [0, 1, 2, 3, 4, 5, 6] rfl)
noncomputable def f_L_bests_54 (N : Nat) (kh31 : Int32 → Int32 → Int32 → Int32 → Int32 → yT → Option (Int32 × yT)) (w1 : Int32) (w2 : Int32) (w4 : Int32) (w5 : Int32) (s0 : Int32) (s1 : Int32) (T : yT) : Option (Int32 × yT) :=
zbp (y_X6_trees T s1 s0) fun q1 T3 => (
zx q1 (fun _ => none) fun r4 => (
zbp (f_L_call N T3 (10 : Int32) w1 w5 (0 : Int32) (0 : Int32)) fun q5 T7 => (
zbp (f_L_call N T7 (11 : Int32) w1 w5 (0 : Int32) (0 : Int32)) fun q8 T10 => (
(if q8 = q5 then
zbp (f_L_call N T10 (14 : Int32) w1 w5 r4 (0 : Int32)) fun q12 T14 => (
(if q12 = (-8001 : Int32) then
zbp (f_L_call N T14 (14 : Int32) w1 w5 (-1 : Int32) (0 : Int32)) fun q16 T18 => (
(if q16 = (-8001 : Int32) then
(if r4 ≤ 0 then
(if q5 = (-8003 : Int32) then
zbp (f_L_call N T18 (14 : Int32) w1 w5 (0 : Int32) (0 : Int32)) fun q22 T24 => (
(if q22 = (-8001 : Int32) then
f_L_bests_178 N kh31 w1 w2 w4 w5 r4 q5 T24
else
f_L_bests_182 N kh31 w1 w2 w4 w5 r4 q5 T24))
else
f_L_bests_182 N kh31 w1 w2 w4 w5 r4 q5 T18)
else
(if w5 = (1 : Int32) then
f_L_bests_141 N kh31 w1 w2 w4 w5 r4 q5 (1 : Int32) w1 T18
else
f_L_bests_141 N kh31 w1 w2 w4 w5 r4 q5 (0 : Int32) w1 T18))
else
f_L_bests_182 N kh31 w1 w2 w4 w5 r4 q5 T18))
else
f_L_bests_182 N kh31 w1 w2 w4 w5 r4 q5 T14))
else
f_L_bests_182 N kh31 w1 w2 w4 w5 r4 q5 T10)))))
set_option maxRecDepth 100000 in
set_option maxHeartbeats 8000000 in
theorem t_L_bests_54 {p : Program} {l : Launch} {e : Env} {s : State} {m : MethodId} {args : Array Value} {below : List Frame} {meth : Method} {c : Code} {D : va_G} {cy : Nat → ClassId} {x0 lo : Nat} (C0 : yCx p l s m c meth args cL_bests 11 wsM_bests RL (some .boolean) D cy lo) (N : Nat) (hN : 10000000 ≤ N) {kh31 : Int32 → Int32 → Int32 → Int32 → Int32 → yT → Option (Int32 × yT)} {ch31 : Nat} {c0 : Nat} {w1 : Int32} {w2 : Int32} {w4 : Int32} {w5 : Int32} {s0 : Int32} {s1 : Int32} {T : yT} {r : Int32} {Tr : yT} (hm31 : ch31 ≤ 434) (hk31 : ∀ {y1 : Int32} {y2 : Int32} {y3 : Int32} {y4 : Int32} {y5 : Int32} {T : yT}, kh31 y1 y2 y3 y4 y5 T = some (r, Tr) → ∀ {H : Heap} {locs : List Loc} {ls : Array Slot}, yWd D cy x0 lo T H → va_S (yA lo) s.heap H locs → lv_has ls 11 [(0, .ref x0), (1, .int y1), (2, .int y2), (3, .int y3), (4, .int y4), (5, .int y5)] → W p l e (headSpec wsM_bests ({ frames := 18, cells := 434, slots := 3472, locals := 470 } : Room)).room s m args below meth c H locs (ch31) (8 * (ch31)) (MQ below (yQi D cy x0 lo r Tr) args s 434 3472 (yA lo)) (F0 m 31 ls [])) (hc : c0 + 136 ≤ 434) (he31 : c0 + 136 ≤ ch31) (h : f_L_bests_54 N kh31 w1 w2 w4 w5 s0 s1 T = some (r, Tr)) {H : Heap} {locs : List Loc} {ls : Array Slot} (hW : yWd D cy x0 lo T H) (hS : va_S (yA lo) s.heap H locs) (hl : lv_has ls 11 [(0, .ref x0), (1, .int w1), (2, .int w2), (4, .int w4), (5, .int w5)]) : W p l e (headSpec wsM_bests ({ frames := 18, cells := 434, slots := 3472, locals := 470 } : Room)).room s m args below meth c H locs (c0) (8 * (c0)) (MQ below (yQi D cy x0 lo r Tr) args s 434 3472 (yA lo)) (F0 m 54 ls [.int s0, .int s1, .ref x0]) := by
  obtain ⟨hx, hb, hr, hml, hown, hts, hlocks, hK, hE, hlo, hlt⟩ := id C0
  unfold f_L_bests_54 at h
  obtain ⟨q1, T3, e2, h⟩ := zbp_some h
  refine y_xcalli hS (vx_runV (As := [.int s1, .int s0]) (rest := []) ⟨hx, hb, hml, hown, hts⟩ (n_X6_trees l hlt N hN e2) (cwV 2 hts (gM_X6_trees wsM_up) rfl rfl rfl (by decide +kernel) ⟨Nat.le_of_ble_eq_true rfl, Nat.le_of_ble_eq_true rfl⟩) (y_preV hK hE hlo hW hS [.int s1, .int s0]) rfl rfl hl.1 rfl (lv_room (Nat.le_of_ble_eq_true rfl)) dL_bests_54 ⟨by show c0 + 1 ≤ 434; omega, by show 8 * (c0) + 6 ≤ 3472; omega⟩) (fun k hk H locs q9 ce hW hS hce hcv hcl => by subst hk; cases (show (none : Option (Int32 × yT)) = some (r, Tr) from zx_l h)) (fun r4 hk H locs hW hS => ?_)
  subst hk
  have h := zx_r h
  refine W.widen (k := c0 + 1) (n := 8 * (c0 + 1)) (by omega) (by omega) ?_
  refine lv_istore (lv' := [(6, .int r4), (0, .ref x0), (1, .int w1), (2, .int w2), (4, .int w4), (5, .int w5)]) hx hb dL_bests_57 hl (by decide) rfl (fun ls hl => ?_)
  refine lv_aload_n hx hb dL_bests_59 rfl (lv_at hl 1 rfl) ?_
  refine lv_bipush (v := 10) hx hb dL_bests_60 (by decide) ?_
  refine lv_iload_n hx hb dL_bests_62 rfl (lv_at hl 2 rfl) ?_
  refine lv_iload hx hb dL_bests_63 (lv_at hl 5 rfl) ?_
  refine lv_iconst (v := 0) hx hb dL_bests_65 (by decide) ?_
  refine lv_iconst (v := 0) hx hb dL_bests_66 (by decide) ?_
  obtain ⟨q5, T7, e6, h⟩ := zbp_some h
  refine y_calli hS (vx_runSW (As := [.ref x0, .int (10 : Int32), .int w1, .int w5, .int (0 : Int32), .int (0 : Int32)]) (rest := []) ⟨hx, hb, hml, hown, hts⟩ (m_L_call l hlt N hN e6) (vx_cwSW (hh := [(0, 11, 12, 14), (0, 11, 18, 16), (0, 11, 24, 18)]) 6 hts (gM_L_call wsM_up) rfl rfl rfl (by decide +kernel) ⟨Nat.le_of_ble_eq_true rfl, Nat.le_of_ble_eq_true rfl⟩) (y_preS hK hE hlo hW hS [.ref x0, .int (10 : Int32), .int w1, .int w5, .int (0 : Int32), .int (0 : Int32)]) rfl rfl hl.1 rfl (lv_room (Nat.le_of_ble_eq_true rfl)) dL_bests_67 ⟨by show c0 + 1 + 11 ≤ 434; omega, by show 8 * (c0 + 1) + 88 ≤ 3472; omega⟩) (fun H locs hW hS => ?_)
  refine W.widen (k := c0 + 12) (n := 8 * (c0 + 12)) (by omega) (by omega) ?_
  refine lv_istore (lv' := [(7, .int q5), (6, .int r4), (0, .ref x0), (1, .int w1), (2, .int w2), (4, .int w4), (5, .int w5)]) hx hb dL_bests_70 hl (by decide) rfl (fun ls hl => ?_)
  refine lv_aload_n hx hb dL_bests_72 rfl (lv_at hl 2 rfl) ?_
  refine lv_bipush (v := 11) hx hb dL_bests_73 (by decide) ?_
  refine lv_iload_n hx hb dL_bests_75 rfl (lv_at hl 3 rfl) ?_
  refine lv_iload hx hb dL_bests_76 (lv_at hl 6 rfl) ?_
  refine lv_iconst (v := 0) hx hb dL_bests_78 (by decide) ?_
  refine lv_iconst (v := 0) hx hb dL_bests_79 (by decide) ?_
  obtain ⟨q8, T10, e9, h⟩ := zbp_some h
  refine y_calli hS (vx_runSW (As := [.ref x0, .int (11 : Int32), .int w1, .int w5, .int (0 : Int32), .int (0 : Int32)]) (rest := []) ⟨hx, hb, hml, hown, hts⟩ (m_L_call l hlt N hN e9) (vx_cwSW (hh := [(0, 11, 12, 14), (0, 11, 18, 16), (0, 11, 24, 18)]) 6 hts (gM_L_call wsM_up) rfl rfl rfl (by decide +kernel) ⟨Nat.le_of_ble_eq_true rfl, Nat.le_of_ble_eq_true rfl⟩) (y_preS hK hE hlo hW hS [.ref x0, .int (11 : Int32), .int w1, .int w5, .int (0 : Int32), .int (0 : Int32)]) rfl rfl hl.1 rfl (lv_room (Nat.le_of_ble_eq_true rfl)) dL_bests_80 ⟨by show c0 + 12 + 11 ≤ 434; omega, by show 8 * (c0 + 12) + 88 ≤ 3472; omega⟩) (fun H locs hW hS => ?_)
  refine W.widen (k := c0 + 23) (n := 8 * (c0 + 23)) (by omega) (by omega) ?_
  refine lv_iload hx hb dL_bests_83 (lv_at hl 0 rfl) ?_
  refine lv_icmp_ne (tgt := 182) hx hb dL_bests_85 (by decide) (fun c11 => ?_) (fun c11 => ?_)
  · have h := zin c11 h
    exact t_L_bests_182 C0 N hN (ch31 := ch31) (c0 := c0 + 23) hm31 hk31 (by omega) (by omega) h hW hS (lv_sub hl [2, 3, 4, 5, 6, 1, 0] rfl)
  · have h := zip c11 h
    refine lv_aload_n hx hb dL_bests_88 rfl (lv_at hl 2 rfl) ?_
    refine lv_bipush (v := 14) hx hb dL_bests_89 (by decide) ?_
    refine lv_iload_n hx hb dL_bests_91 rfl (lv_at hl 3 rfl) ?_
    refine lv_iload hx hb dL_bests_92 (lv_at hl 6 rfl) ?_
    refine lv_iload hx hb dL_bests_94 (lv_at hl 1 rfl) ?_
    refine lv_iconst (v := 0) hx hb dL_bests_96 (by decide) ?_
    obtain ⟨q12, T14, e13, h⟩ := zbp_some h
    refine y_calli hS (vx_runSW (As := [.ref x0, .int (14 : Int32), .int w1, .int w5, .int r4, .int (0 : Int32)]) (rest := []) ⟨hx, hb, hml, hown, hts⟩ (m_L_call l hlt N hN e13) (vx_cwSW (hh := [(0, 11, 12, 14), (0, 11, 18, 16), (0, 11, 24, 18)]) 6 hts (gM_L_call wsM_up) rfl rfl rfl (by decide +kernel) ⟨Nat.le_of_ble_eq_true rfl, Nat.le_of_ble_eq_true rfl⟩) (y_preS hK hE hlo hW hS [.ref x0, .int (14 : Int32), .int w1, .int w5, .int r4, .int (0 : Int32)]) rfl rfl hl.1 rfl (lv_room (Nat.le_of_ble_eq_true rfl)) dL_bests_97 ⟨by show c0 + 23 + 11 ≤ 434; omega, by show 8 * (c0 + 23) + 88 ≤ 3472; omega⟩) (fun H locs hW hS => ?_)
    refine W.widen (k := c0 + 34) (n := 8 * (c0 + 34)) (by omega) (by omega) ?_
    refine lv_sipush (v := -8001) hx hb dL_bests_100 (by decide) ?_
    refine lv_icmp_ne (tgt := 182) hx hb dL_bests_103 (by decide) (fun c15 => ?_) (fun c15 => ?_)
    · have h := zin c15 h
      exact t_L_bests_182 C0 N hN (ch31 := ch31) (c0 := c0 + 34) hm31 hk31 (by omega) (by omega) h hW hS (lv_sub hl [2, 3, 4, 5, 6, 1, 0] rfl)
    · have h := zip c15 h
      refine lv_aload_n hx hb dL_bests_106 rfl (lv_at hl 2 rfl) ?_
      refine lv_bipush (v := 14) hx hb dL_bests_107 (by decide) ?_
      refine lv_iload_n hx hb dL_bests_109 rfl (lv_at hl 3 rfl) ?_
      refine lv_iload hx hb dL_bests_110 (lv_at hl 6 rfl) ?_
      refine lv_iconst (v := -1) hx hb dL_bests_112 (by decide) ?_
      refine lv_iconst (v := 0) hx hb dL_bests_113 (by decide) ?_
      obtain ⟨q16, T18, e17, h⟩ := zbp_some h
      refine y_calli hS (vx_runSW (As := [.ref x0, .int (14 : Int32), .int w1, .int w5, .int (-1 : Int32), .int (0 : Int32)]) (rest := []) ⟨hx, hb, hml, hown, hts⟩ (m_L_call l hlt N hN e17) (vx_cwSW (hh := [(0, 11, 12, 14), (0, 11, 18, 16), (0, 11, 24, 18)]) 6 hts (gM_L_call wsM_up) rfl rfl rfl (by decide +kernel) ⟨Nat.le_of_ble_eq_true rfl, Nat.le_of_ble_eq_true rfl⟩) (y_preS hK hE hlo hW hS [.ref x0, .int (14 : Int32), .int w1, .int w5, .int (-1 : Int32), .int (0 : Int32)]) rfl rfl hl.1 rfl (lv_room (Nat.le_of_ble_eq_true rfl)) dL_bests_114 ⟨by show c0 + 34 + 11 ≤ 434; omega, by show 8 * (c0 + 34) + 88 ≤ 3472; omega⟩) (fun H locs hW hS => ?_)
      refine W.widen (k := c0 + 45) (n := 8 * (c0 + 45)) (by omega) (by omega) ?_
      refine lv_sipush (v := -8001) hx hb dL_bests_117 (by decide) ?_
      refine lv_icmp_ne (tgt := 182) hx hb dL_bests_120 (by decide) (fun c19 => ?_) (fun c19 => ?_)
      · have h := zin c19 h
        exact t_L_bests_182 C0 N hN (ch31 := ch31) (c0 := c0 + 45) hm31 hk31 (by omega) (by omega) h hW hS (lv_sub hl [2, 3, 4, 5, 6, 1, 0] rfl)
      · have h := zip c19 h
        refine lv_iload hx hb dL_bests_123 (lv_at hl 1 rfl) ?_
        refine lv_if_le (tgt := 153) hx hb dL_bests_125 (by decide) (fun c20 => ?_) (fun c20 => ?_)
        · have h := zip c20 h
          refine lv_iload hx hb dL_bests_153 (lv_at hl 0 rfl) ?_
          refine lv_sipush (v := -8003) hx hb dL_bests_155 (by decide) ?_
          refine lv_icmp_ne (tgt := 182) hx hb dL_bests_158 (by decide) (fun c21 => ?_) (fun c21 => ?_)
          · have h := zin c21 h
            exact t_L_bests_182 C0 N hN (ch31 := ch31) (c0 := c0 + 45) hm31 hk31 (by omega) (by omega) h hW hS (lv_sub hl [2, 3, 4, 5, 6, 1, 0] rfl)
          · have h := zip c21 h
            refine lv_aload_n hx hb dL_bests_161 rfl (lv_at hl 2 rfl) ?_
            refine lv_bipush (v := 14) hx hb dL_bests_162 (by decide) ?_
            refine lv_iload_n hx hb dL_bests_164 rfl (lv_at hl 3 rfl) ?_
            refine lv_iload hx hb dL_bests_165 (lv_at hl 6 rfl) ?_
            refine lv_iconst (v := 0) hx hb dL_bests_167 (by decide) ?_
            refine lv_iconst (v := 0) hx hb dL_bests_168 (by decide) ?_
            obtain ⟨q22, T24, e23, h⟩ := zbp_some h
            refine y_calli hS (vx_runSW (As := [.ref x0, .int (14 : Int32), .int w1, .int w5, .int (0 : Int32), .int (0 : Int32)]) (rest := []) ⟨hx, hb, hml, hown, hts⟩ (m_L_call l hlt N hN e23) (vx_cwSW (hh := [(0, 11, 12, 14), (0, 11, 18, 16), (0, 11, 24, 18)]) 6 hts (gM_L_call wsM_up) rfl rfl rfl (by decide +kernel) ⟨Nat.le_of_ble_eq_true rfl, Nat.le_of_ble_eq_true rfl⟩) (y_preS hK hE hlo hW hS [.ref x0, .int (14 : Int32), .int w1, .int w5, .int (0 : Int32), .int (0 : Int32)]) rfl rfl hl.1 rfl (lv_room (Nat.le_of_ble_eq_true rfl)) dL_bests_169 ⟨by show c0 + 45 + 11 ≤ 434; omega, by show 8 * (c0 + 45) + 88 ≤ 3472; omega⟩) (fun H locs hW hS => ?_)
            refine W.widen (k := c0 + 56) (n := 8 * (c0 + 56)) (by omega) (by omega) ?_
            refine lv_sipush (v := -8001) hx hb dL_bests_172 (by decide) ?_
            refine lv_icmp_ne (tgt := 182) hx hb dL_bests_175 (by decide) (fun c25 => ?_) (fun c25 => ?_)
            · have h := zin c25 h
              exact t_L_bests_182 C0 N hN (ch31 := ch31) (c0 := c0 + 56) hm31 hk31 (by omega) (by omega) h hW hS (lv_sub hl [2, 3, 4, 5, 6, 1, 0] rfl)
            · have h := zip c25 h
              exact t_L_bests_178 C0 N hN (ch31 := ch31) (c0 := c0 + 56) hm31 hk31 (by omega) (by omega) h hW hS (lv_sub hl [2, 3, 4, 5, 6, 1, 0] rfl)
        · have h := zin c20 h
          refine lv_aload_n hx hb dL_bests_128 rfl (lv_at hl 2 rfl) ?_
          refine lv_iload_n hx hb dL_bests_129 rfl (lv_at hl 3 rfl) ?_
          refine lv_iload hx hb dL_bests_130 (lv_at hl 6 rfl) ?_
          refine lv_iconst (v := 1) hx hb dL_bests_132 (by decide) ?_
          refine lv_icmp_ne (tgt := 140) hx hb dL_bests_133 (by decide) (fun c26 => ?_) (fun c26 => ?_)
          · have h := zin c26 h
            refine lv_iconst (v := 0) hx hb dL_bests_140 (by decide) ?_
            exact t_L_bests_141 C0 N hN (ch31 := ch31) (c0 := c0 + 45) hm31 hk31 (by omega) (by omega) h hW hS (lv_sub hl [2, 3, 4, 5, 6, 1, 0] rfl)
          · have h := zip c26 h
            refine lv_iconst (v := 1) hx hb dL_bests_136 (by decide) ?_
            refine lv_goto (tgt := 141) hx hb dL_bests_137 (by decide) ?_
            exact t_L_bests_141 C0 N hN (ch31 := ch31) (c0 := c0 + 45) hm31 hk31 (by omega) (by omega) h hW hS (lv_sub hl [2, 3, 4, 5, 6, 1, 0] rfl)
noncomputable def f_L_bests_31 (N : Nat) : Nat → Int32 → Int32 → Int32 → Int32 → Int32 → yT → Option (Int32 × yT)
  | 0, _, _, _, _, _, _ => none
  | n + 1, w1, w2, w3, w4, w5, T =>
    (if (2 : Int32) ≤ w5 then
    f_L_bests_454 N w1 w3 w4 T
    else
    (if w3 = 0 then
    f_L_bests_454 N w1 w3 w4 T
    else
    (if w5 = (1 : Int32) then
    f_L_bests_54 N (fun y1 y2 y3 y4 y5 T => f_L_bests_31 N n y1 y2 y3 y4 y5 T) w1 w2 w4 w5 (1 : Int32) w1 T
    else
    f_L_bests_54 N (fun y1 y2 y3 y4 y5 T => f_L_bests_31 N n y1 y2 y3 y4 y5 T) w1 w2 w4 w5 (0 : Int32) w1 T)))
set_option maxRecDepth 100000 in
set_option maxHeartbeats 8000000 in
theorem t_L_bests_31 {p : Program} {l : Launch} {e : Env} {s : State} {m : MethodId} {args : Array Value} {below : List Frame} {meth : Method} {c : Code} {D : va_G} {cy : Nat → ClassId} {x0 lo : Nat} (C0 : yCx p l s m c meth args cL_bests 11 wsM_bests RL (some .boolean) D cy lo) (N : Nat) (hN : 10000000 ≤ N) {r : Int32} {Tr : yT} : ∀ (n c0 : Nat) {w1 : Int32} {w2 : Int32} {w3 : Int32} {w4 : Int32} {w5 : Int32} {T : yT}, c0 + n * 136 + 23 ≤ 434 → f_L_bests_31 N n w1 w2 w3 w4 w5 T = some (r, Tr) → ∀ {H : Heap} {locs : List Loc} {ls : Array Slot}, yWd D cy x0 lo T H → va_S (yA lo) s.heap H locs → lv_has ls 11 [(0, .ref x0), (1, .int w1), (2, .int w2), (3, .int w3), (4, .int w4), (5, .int w5)] → W p l e (headSpec wsM_bests ({ frames := 18, cells := 434, slots := 3472, locals := 470 } : Room)).room s m args below meth c H locs (c0) (8 * (c0)) (MQ below (yQi D cy x0 lo r Tr) args s 434 3472 (yA lo)) (F0 m 31 ls []) := by
  obtain ⟨hx, hb, hr, hml, hown, hts, hlocks, hK, hE, hlo, hlt⟩ := id C0
  intro n
  induction n with
  | zero =>
    intro c0 w1 w2 w3 w4 w5 T hc h
    cases (show (none : Option (Int32 × yT)) = some (r, Tr) from h)
  | succ n ih =>
    intro c0 w1 w2 w3 w4 w5 T hc h H locs ls hW hS hl
    rw [f_L_bests_31] at h
    refine lv_iload hx hb dL_bests_31 (lv_at hl 5 rfl) ?_
    refine lv_iconst (v := 2) hx hb dL_bests_33 (by decide) ?_
    refine lv_icmp_ge (tgt := 454) hx hb dL_bests_34 (by decide) (fun c1 => ?_) (fun c1 => ?_)
    · have h := zip c1 h
      exact t_L_bests_454 C0 N hN (c0 := c0)  (by omega) h hW hS (lv_sub hl [0, 1, 3, 4] rfl)
    · have h := zin c1 h
      refine lv_iload_n hx hb dL_bests_37 rfl (lv_at hl 3 rfl) ?_
      refine lv_if_eq (tgt := 454) hx hb dL_bests_38 (by decide) (fun c2 => ?_) (fun c2 => ?_)
      · have h := zip c2 h
        exact t_L_bests_454 C0 N hN (c0 := c0)  (by omega) h hW hS (lv_sub hl [0, 1, 3, 4] rfl)
      · have h := zin c2 h
        refine lv_aload_n hx hb dL_bests_41 rfl (lv_at hl 0 rfl) ?_
        refine lv_iload_n hx hb dL_bests_42 rfl (lv_at hl 1 rfl) ?_
        refine lv_iload hx hb dL_bests_43 (lv_at hl 5 rfl) ?_
        refine lv_iconst (v := 1) hx hb dL_bests_45 (by decide) ?_
        refine lv_icmp_ne (tgt := 53) hx hb dL_bests_46 (by decide) (fun c3 => ?_) (fun c3 => ?_)
        · have h := zin c3 h
          refine lv_iconst (v := 0) hx hb dL_bests_53 (by decide) ?_
          exact t_L_bests_54 C0 N hN (ch31 := c0 + 136) (c0 := c0) (by omega) (fun h _ _ _ hW hS hl => ih (c0 + 136) (by omega) h hW hS hl) (by omega) (by omega) h hW hS (lv_sub hl [0, 1, 2, 4, 5] rfl)
        · have h := zip c3 h
          refine lv_iconst (v := 1) hx hb dL_bests_49 (by decide) ?_
          refine lv_goto (tgt := 54) hx hb dL_bests_50 (by decide) ?_
          exact t_L_bests_54 C0 N hN (ch31 := c0 + 136) (c0 := c0) (by omega) (fun h _ _ _ hW hS hl => ih (c0 + 136) (by omega) h hW hS hl) (by omega) (by omega) h hW hS (lv_sub hl [0, 1, 2, 4, 5] rfl)
noncomputable def f_L_bests_20 (N : Nat) (w1 : Int32) (w2 : Int32) (s0 : Int32) (T : yT) : Option (Int32 × yT) :=
zbp (y_X6_words T w1) fun q1 T3 => (
zx q1 (fun _ => none) fun r4 => (
f_L_bests_31 N 3 w1 w2 s0 r4 (0 : Int32) T3))
set_option maxRecDepth 100000 in
set_option maxHeartbeats 8000000 in
theorem t_L_bests_20 {p : Program} {l : Launch} {e : Env} {s : State} {m : MethodId} {args : Array Value} {below : List Frame} {meth : Method} {c : Code} {D : va_G} {cy : Nat → ClassId} {x0 lo : Nat} (C0 : yCx p l s m c meth args cL_bests 11 wsM_bests RL (some .boolean) D cy lo) (N : Nat) (hN : 10000000 ≤ N) {c0 : Nat} {w1 : Int32} {w2 : Int32} {s0 : Int32} {T : yT} {r : Int32} {Tr : yT} (hc : c0 + 432 ≤ 434) (h : f_L_bests_20 N w1 w2 s0 T = some (r, Tr)) {H : Heap} {locs : List Loc} {ls : Array Slot} (hW : yWd D cy x0 lo T H) (hS : va_S (yA lo) s.heap H locs) (hl : lv_has ls 11 [(0, .ref x0), (1, .int w1), (2, .int w2)]) : W p l e (headSpec wsM_bests ({ frames := 18, cells := 434, slots := 3472, locals := 470 } : Room)).room s m args below meth c H locs (c0) (8 * (c0)) (MQ below (yQi D cy x0 lo r Tr) args s 434 3472 (yA lo)) (F0 m 20 ls [.int s0]) := by
  obtain ⟨hx, hb, hr, hml, hown, hts, hlocks, hK, hE, hlo, hlt⟩ := id C0
  unfold f_L_bests_20 at h
  refine lv_istore_n (lv' := [(3, .int s0), (0, .ref x0), (1, .int w1), (2, .int w2)]) hx hb dL_bests_20 rfl hl (by decide) rfl (fun ls hl => ?_)
  refine lv_aload_n hx hb dL_bests_21 rfl (lv_at hl 1 rfl) ?_
  refine lv_iload_n hx hb dL_bests_22 rfl (lv_at hl 2 rfl) ?_
  obtain ⟨q1, T3, e2, h⟩ := zbp_some h
  refine y_xcalli hS (vx_runV (As := [.int w1]) (rest := []) ⟨hx, hb, hml, hown, hts⟩ (n_X6_words l hlt N hN e2) (cwV 1 hts (gM_X6_words wsM_up) rfl rfl rfl (by decide +kernel) ⟨Nat.le_of_ble_eq_true rfl, Nat.le_of_ble_eq_true rfl⟩) (y_preV hK hE hlo hW hS [.int w1]) rfl rfl hl.1 rfl (lv_room (Nat.le_of_ble_eq_true rfl)) dL_bests_23 ⟨by show c0 + 1 ≤ 434; omega, by show 8 * (c0) + 6 ≤ 3472; omega⟩) (fun k hk H locs q9 ce hW hS hce hcv hcl => by subst hk; cases (show (none : Option (Int32 × yT)) = some (r, Tr) from zx_l h)) (fun r4 hk H locs hW hS => ?_)
  subst hk
  have h := zx_r h
  refine W.widen (k := c0 + 1) (n := 8 * (c0 + 1)) (by omega) (by omega) ?_
  refine lv_istore (lv' := [(4, .int r4), (3, .int s0), (0, .ref x0), (1, .int w1), (2, .int w2)]) hx hb dL_bests_26 hl (by decide) rfl (fun ls hl => ?_)
  refine lv_iconst (v := 0) hx hb dL_bests_28 (by decide) ?_
  refine lv_istore (lv' := [(5, .int (0 : Int32)), (4, .int r4), (3, .int s0), (0, .ref x0), (1, .int w1), (2, .int w2)]) hx hb dL_bests_29 hl (by decide) rfl (fun ls hl => ?_)
  exact t_L_bests_31 C0 N hN  3 (c0 + 1) (by omega) h hW hS (lv_sub hl [3, 4, 5, 2, 1, 0] rfl)
noncomputable def f_L_bests_0 (N : Nat) (w1 : Int32) (w2 : Int32) (T : yT) : Option (Int32 × yT) :=
zbp (y_X6_trees T w1 (0 : Int32)) fun q1 T3 => (
zx q1 (fun _ => none) fun r4 => (
zbp (y_X6_trees T3 w1 (1 : Int32)) fun q5 T7 => (
zx q5 (fun _ => none) fun r8 => (
(if r8 < r4 then
f_L_bests_20 N w1 w2 (0 : Int32) T7
else
f_L_bests_20 N w1 w2 (1 : Int32) T7)))))
set_option maxRecDepth 100000 in
set_option maxHeartbeats 8000000 in
theorem t_L_bests_0 {p : Program} {l : Launch} {e : Env} {s : State} {m : MethodId} {args : Array Value} {below : List Frame} {meth : Method} {c : Code} {D : va_G} {cy : Nat → ClassId} {x0 lo : Nat} (C0 : yCx p l s m c meth args cL_bests 11 wsM_bests RL (some .boolean) D cy lo) (N : Nat) (hN : 10000000 ≤ N) {c0 : Nat} {w1 : Int32} {w2 : Int32} {T : yT} {r : Int32} {Tr : yT} (hc : c0 + 434 ≤ 434) (h : f_L_bests_0 N w1 w2 T = some (r, Tr)) {H : Heap} {locs : List Loc} {ls : Array Slot} (hW : yWd D cy x0 lo T H) (hS : va_S (yA lo) s.heap H locs) (hl : lv_has ls 11 [(0, .ref x0), (1, .int w1), (2, .int w2)]) : W p l e (headSpec wsM_bests ({ frames := 18, cells := 434, slots := 3472, locals := 470 } : Room)).room s m args below meth c H locs (c0) (8 * (c0)) (MQ below (yQi D cy x0 lo r Tr) args s 434 3472 (yA lo)) (F0 m 0 ls []) := by
  obtain ⟨hx, hb, hr, hml, hown, hts, hlocks, hK, hE, hlo, hlt⟩ := id C0
  unfold f_L_bests_0 at h
  refine lv_aload_n hx hb dL_bests_0 rfl (lv_at hl 0 rfl) ?_
  refine lv_iload_n hx hb dL_bests_1 rfl (lv_at hl 1 rfl) ?_
  refine lv_iconst (v := 0) hx hb dL_bests_2 (by decide) ?_
  obtain ⟨q1, T3, e2, h⟩ := zbp_some h
  refine y_xcalli hS (vx_runV (As := [.int w1, .int (0 : Int32)]) (rest := []) ⟨hx, hb, hml, hown, hts⟩ (n_X6_trees l hlt N hN e2) (cwV 2 hts (gM_X6_trees wsM_up) rfl rfl rfl (by decide +kernel) ⟨Nat.le_of_ble_eq_true rfl, Nat.le_of_ble_eq_true rfl⟩) (y_preV hK hE hlo hW hS [.int w1, .int (0 : Int32)]) rfl rfl hl.1 rfl (lv_room (Nat.le_of_ble_eq_true rfl)) dL_bests_3 ⟨by show c0 + 1 ≤ 434; omega, by show 8 * (c0) + 6 ≤ 3472; omega⟩) (fun k hk H locs q9 ce hW hS hce hcv hcl => by subst hk; cases (show (none : Option (Int32 × yT)) = some (r, Tr) from zx_l h)) (fun r4 hk H locs hW hS => ?_)
  subst hk
  have h := zx_r h
  refine W.widen (k := c0 + 1) (n := 8 * (c0 + 1)) (by omega) (by omega) ?_
  refine lv_aload_n hx hb dL_bests_6 rfl (lv_at hl 0 rfl) ?_
  refine lv_iload_n hx hb dL_bests_7 rfl (lv_at hl 1 rfl) ?_
  refine lv_iconst (v := 1) hx hb dL_bests_8 (by decide) ?_
  obtain ⟨q5, T7, e6, h⟩ := zbp_some h
  refine y_xcalli hS (vx_runV (As := [.int w1, .int (1 : Int32)]) (rest := [.int r4]) ⟨hx, hb, hml, hown, hts⟩ (n_X6_trees l hlt N hN e6) (cwV 2 hts (gM_X6_trees wsM_up) rfl rfl rfl (by decide +kernel) ⟨Nat.le_of_ble_eq_true rfl, Nat.le_of_ble_eq_true rfl⟩) (y_preV hK hE hlo hW hS [.int w1, .int (1 : Int32)]) rfl rfl hl.1 rfl (lv_room (Nat.le_of_ble_eq_true rfl)) dL_bests_9 ⟨by show c0 + 1 + 1 ≤ 434; omega, by show 8 * (c0 + 1) + 6 ≤ 3472; omega⟩) (fun k hk H locs q9 ce hW hS hce hcv hcl => by subst hk; cases (show (none : Option (Int32 × yT)) = some (r, Tr) from zx_l h)) (fun r8 hk H locs hW hS => ?_)
  subst hk
  have h := zx_r h
  refine W.widen (k := c0 + 2) (n := 8 * (c0 + 2)) (by omega) (by omega) ?_
  refine lv_icmp_gt (tgt := 19) hx hb dL_bests_12 (by decide) (fun c9 => ?_) (fun c9 => ?_)
  · have h := zip c9 h
    refine lv_iconst (v := 0) hx hb dL_bests_19 (by decide) ?_
    exact t_L_bests_20 C0 N hN (c0 := c0 + 2)  (by omega) h hW hS (lv_sub hl [0, 1, 2] rfl)
  · have h := zin c9 h
    refine lv_iconst (v := 1) hx hb dL_bests_15 (by decide) ?_
    refine lv_goto (tgt := 20) hx hb dL_bests_16 (by decide) ?_
    exact t_L_bests_20 C0 N hN (c0 := c0 + 2)  (by omega) h hW hS (lv_sub hl [0, 1, 2] rfl)
noncomputable def f_L_bests (N : Nat) (T : yT) (a1 : Int32) (a2 : Int32) : Option (Int32 × yT) := f_L_bests_0 N a1 a2 T
set_option maxRecDepth 100000 in
set_option maxHeartbeats 8000000 in
theorem m_L_bests (l : Launch) (hlt : l.stackTraces = false) (N : Nat) (hN : 10000000 ≤ N) {D : va_G} {cy : Nat → ClassId} {x0 lo : Nat} {T : yT} {a1 : Int32} {a2 : Int32} {r : Int32} {Tr : yT} (h : f_L_bests N T a1 a2 = some (r, Tr)) : Met l yL_bests wsM_bests ({ frames := 18, cells := 434, slots := 3472, locals := 470 } : Room) (yPre D cy x0 lo [.ref x0, .int a1, .int a2] T) (yQi D cy x0 lo r Tr) 434 3472 (yA lo) :=
  y_entry hlt (av := [.ref x0, .int a1, .int a2]) (by decide) rfl rfl (Nat.le_of_ble_eq_true rfl) (fun p e s m args below meth c C0 H locs ls hW hS hl => t_L_bests_0 C0 N hN (c0 := 0) (by decide) h hW hS (lv_sub hl [0, 1, 2] rfl))

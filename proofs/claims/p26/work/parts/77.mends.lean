/-! mends (by program: wip/p26/gen/geny.py). -/
noncomputable def f_L_mends_399 (N : Nat) (w4 : Int32) (T : yT) : Option (Int32 × yT) :=
zg (zbo w4) (
some (w4, T))
set_option maxRecDepth 100000 in
set_option maxHeartbeats 8000000 in
theorem t_L_mends_399 {p : Program} {l : Launch} {e : Env} {s : State} {m : MethodId} {args : Array Value} {below : List Frame} {meth : Method} {c : Code} {D : va_G} {cy : Nat → ClassId} {x0 lo : Nat} (C0 : yCx p l s m c meth args cL_mends 14 wsM_mends RL (some .boolean) D cy lo) (N : Nat) (hN : 10000000 ≤ N) {c0 : Nat} {w4 : Int32} {T : yT} {r : Int32} {Tr : yT} (hc : c0 + 0 ≤ 2689) (h : f_L_mends_399 N w4 T = some (r, Tr)) {H : Heap} {locs : List Loc} {ls : Array Slot} (hW : yWd D cy x0 lo T H) (hS : va_S (yA lo) s.heap H locs) (hl : lv_has ls 14 [(4, .int w4)]) : W p l e (headSpec wsM_mends ({ frames := 19, cells := 2689, slots := 21512, locals := 494 } : Room)).room s m args below meth c H locs (c0) (8 * (c0)) (MQ below (yQi D cy x0 lo r Tr) args s 2689 21512 (yA lo)) (F0 m 399 ls []) := by
  obtain ⟨hx, hb, hr, hml, hown, hts, hlocks, hK, hE, hlo, hlt⟩ := id C0
  unfold f_L_mends_399 at h
  refine lv_iload hx hb dL_mends_399 (lv_at hl 0 rfl) ?_
  obtain ⟨g1, h⟩ := zg_some h
  exact y_zret hx hb hr hlocks hW hS g1 (congrArg Prod.fst (Option.some.inj h)) (congrArg Prod.snd (Option.some.inj h)) dL_mends_401 (by omega) (by omega)
noncomputable def f_L_mends_391 (N : Nat) (kh336 : Int32 → Int32 → Int32 → Int32 → Int64 → Int32 → yT → Option (Int32 × yT)) (w1 : Int32) (w2 : Int32) (w8 : Int32) (w10 : Int64) (w13 : Int32) (s0 : Int32) (T : yT) : Option (Int32 × yT) :=
kh336 w1 w2 s0 w8 w10 (w13 + 1) T
set_option maxRecDepth 100000 in
set_option maxHeartbeats 8000000 in
theorem t_L_mends_391 {p : Program} {l : Launch} {e : Env} {s : State} {m : MethodId} {args : Array Value} {below : List Frame} {meth : Method} {c : Code} {D : va_G} {cy : Nat → ClassId} {x0 lo : Nat} (C0 : yCx p l s m c meth args cL_mends 14 wsM_mends RL (some .boolean) D cy lo) (N : Nat) (hN : 10000000 ≤ N) {kh336 : Int32 → Int32 → Int32 → Int32 → Int64 → Int32 → yT → Option (Int32 × yT)} {ch336 : Nat} {c0 : Nat} {w1 : Int32} {w2 : Int32} {w8 : Int32} {w10 : Int64} {w13 : Int32} {s0 : Int32} {T : yT} {r : Int32} {Tr : yT} (hm336 : ch336 ≤ 2689) (hk336 : ∀ {y1 : Int32} {y2 : Int32} {y4 : Int32} {y8 : Int32} {y10 : Int64} {y13 : Int32} {T : yT}, kh336 y1 y2 y4 y8 y10 y13 T = some (r, Tr) → ∀ {H : Heap} {locs : List Loc} {ls : Array Slot}, yWd D cy x0 lo T H → va_S (yA lo) s.heap H locs → lv_has ls 14 [(0, .ref x0), (1, .int y1), (2, .int y2), (4, .int y4), (8, .int y8), (10, .long y10), (13, .int y13)] → W p l e (headSpec wsM_mends ({ frames := 19, cells := 2689, slots := 21512, locals := 494 } : Room)).room s m args below meth c H locs (ch336) (8 * (ch336)) (MQ below (yQi D cy x0 lo r Tr) args s 2689 21512 (yA lo)) (F0 m 336 ls [])) (hc : c0 + 0 ≤ 2689) (he336 : c0 + 0 ≤ ch336) (h : f_L_mends_391 N kh336 w1 w2 w8 w10 w13 s0 T = some (r, Tr)) {H : Heap} {locs : List Loc} {ls : Array Slot} (hW : yWd D cy x0 lo T H) (hS : va_S (yA lo) s.heap H locs) (hl : lv_has ls 14 [(0, .ref x0), (1, .int w1), (2, .int w2), (8, .int w8), (10, .long w10), (13, .int w13)]) : W p l e (headSpec wsM_mends ({ frames := 19, cells := 2689, slots := 21512, locals := 494 } : Room)).room s m args below meth c H locs (c0) (8 * (c0)) (MQ below (yQi D cy x0 lo r Tr) args s 2689 21512 (yA lo)) (F0 m 391 ls [.int s0]) := by
  obtain ⟨hx, hb, hr, hml, hown, hts, hlocks, hK, hE, hlo, hlt⟩ := id C0
  unfold f_L_mends_391 at h
  refine lv_istore (lv' := [(4, .int s0), (0, .ref x0), (1, .int w1), (2, .int w2), (8, .int w8), (10, .long w10), (13, .int w13)]) hx hb dL_mends_391 hl (by decide) rfl (fun ls hl => ?_)
  refine lv_iinc (k := 6) (v := (w13 + 1)) (lv' := [(13, .int (w13 + 1)), (4, .int s0), (0, .ref x0), (1, .int w1), (2, .int w2), (8, .int w8), (10, .long w10)]) hx hb dL_mends_393 hl rfl (by rw [show Int32.ofInt 1 = (1 : Int32) from by decide]) (by decide) rfl (fun ls hl => ?_)
  refine lv_goto (tgt := 336) hx hb dL_mends_396 (by decide) ?_
  refine W.widen (k := ch336) (n := 8 * ch336) (by omega) (by omega) ?_
  exact hk336 h hW hS (lv_sub hl [2, 3, 4, 1, 5, 6, 0] rfl)
noncomputable def f_L_mends_390 (N : Nat) (kh336 : Int32 → Int32 → Int32 → Int32 → Int64 → Int32 → yT → Option (Int32 × yT)) (w1 : Int32) (w2 : Int32) (w8 : Int32) (w10 : Int64) (w13 : Int32) (T : yT) : Option (Int32 × yT) :=
f_L_mends_391 N kh336 w1 w2 w8 w10 w13 (0 : Int32) T
set_option maxRecDepth 100000 in
set_option maxHeartbeats 8000000 in
theorem t_L_mends_390 {p : Program} {l : Launch} {e : Env} {s : State} {m : MethodId} {args : Array Value} {below : List Frame} {meth : Method} {c : Code} {D : va_G} {cy : Nat → ClassId} {x0 lo : Nat} (C0 : yCx p l s m c meth args cL_mends 14 wsM_mends RL (some .boolean) D cy lo) (N : Nat) (hN : 10000000 ≤ N) {kh336 : Int32 → Int32 → Int32 → Int32 → Int64 → Int32 → yT → Option (Int32 × yT)} {ch336 : Nat} {c0 : Nat} {w1 : Int32} {w2 : Int32} {w8 : Int32} {w10 : Int64} {w13 : Int32} {T : yT} {r : Int32} {Tr : yT} (hm336 : ch336 ≤ 2689) (hk336 : ∀ {y1 : Int32} {y2 : Int32} {y4 : Int32} {y8 : Int32} {y10 : Int64} {y13 : Int32} {T : yT}, kh336 y1 y2 y4 y8 y10 y13 T = some (r, Tr) → ∀ {H : Heap} {locs : List Loc} {ls : Array Slot}, yWd D cy x0 lo T H → va_S (yA lo) s.heap H locs → lv_has ls 14 [(0, .ref x0), (1, .int y1), (2, .int y2), (4, .int y4), (8, .int y8), (10, .long y10), (13, .int y13)] → W p l e (headSpec wsM_mends ({ frames := 19, cells := 2689, slots := 21512, locals := 494 } : Room)).room s m args below meth c H locs (ch336) (8 * (ch336)) (MQ below (yQi D cy x0 lo r Tr) args s 2689 21512 (yA lo)) (F0 m 336 ls [])) (hc : c0 + 0 ≤ 2689) (he336 : c0 + 0 ≤ ch336) (h : f_L_mends_390 N kh336 w1 w2 w8 w10 w13 T = some (r, Tr)) {H : Heap} {locs : List Loc} {ls : Array Slot} (hW : yWd D cy x0 lo T H) (hS : va_S (yA lo) s.heap H locs) (hl : lv_has ls 14 [(0, .ref x0), (1, .int w1), (2, .int w2), (8, .int w8), (10, .long w10), (13, .int w13)]) : W p l e (headSpec wsM_mends ({ frames := 19, cells := 2689, slots := 21512, locals := 494 } : Room)).room s m args below meth c H locs (c0) (8 * (c0)) (MQ below (yQi D cy x0 lo r Tr) args s 2689 21512 (yA lo)) (F0 m 390 ls []) := by
  obtain ⟨hx, hb, hr, hml, hown, hts, hlocks, hK, hE, hlo, hlt⟩ := id C0
  unfold f_L_mends_390 at h
  refine lv_iconst (v := 0) hx hb dL_mends_390 (by decide) ?_
  exact t_L_mends_391 C0 N hN (ch336 := ch336) (c0 := c0) hm336 hk336 (by omega) (by omega) h hW hS (lv_sub hl [0, 1, 2, 3, 4, 5] rfl)
noncomputable def f_L_mends_386 (N : Nat) (kh336 : Int32 → Int32 → Int32 → Int32 → Int64 → Int32 → yT → Option (Int32 × yT)) (w1 : Int32) (w2 : Int32) (w8 : Int32) (w10 : Int64) (w13 : Int32) (T : yT) : Option (Int32 × yT) :=
f_L_mends_391 N kh336 w1 w2 w8 w10 w13 (1 : Int32) T
set_option maxRecDepth 100000 in
set_option maxHeartbeats 8000000 in
theorem t_L_mends_386 {p : Program} {l : Launch} {e : Env} {s : State} {m : MethodId} {args : Array Value} {below : List Frame} {meth : Method} {c : Code} {D : va_G} {cy : Nat → ClassId} {x0 lo : Nat} (C0 : yCx p l s m c meth args cL_mends 14 wsM_mends RL (some .boolean) D cy lo) (N : Nat) (hN : 10000000 ≤ N) {kh336 : Int32 → Int32 → Int32 → Int32 → Int64 → Int32 → yT → Option (Int32 × yT)} {ch336 : Nat} {c0 : Nat} {w1 : Int32} {w2 : Int32} {w8 : Int32} {w10 : Int64} {w13 : Int32} {T : yT} {r : Int32} {Tr : yT} (hm336 : ch336 ≤ 2689) (hk336 : ∀ {y1 : Int32} {y2 : Int32} {y4 : Int32} {y8 : Int32} {y10 : Int64} {y13 : Int32} {T : yT}, kh336 y1 y2 y4 y8 y10 y13 T = some (r, Tr) → ∀ {H : Heap} {locs : List Loc} {ls : Array Slot}, yWd D cy x0 lo T H → va_S (yA lo) s.heap H locs → lv_has ls 14 [(0, .ref x0), (1, .int y1), (2, .int y2), (4, .int y4), (8, .int y8), (10, .long y10), (13, .int y13)] → W p l e (headSpec wsM_mends ({ frames := 19, cells := 2689, slots := 21512, locals := 494 } : Room)).room s m args below meth c H locs (ch336) (8 * (ch336)) (MQ below (yQi D cy x0 lo r Tr) args s 2689 21512 (yA lo)) (F0 m 336 ls [])) (hc : c0 + 0 ≤ 2689) (he336 : c0 + 0 ≤ ch336) (h : f_L_mends_386 N kh336 w1 w2 w8 w10 w13 T = some (r, Tr)) {H : Heap} {locs : List Loc} {ls : Array Slot} (hW : yWd D cy x0 lo T H) (hS : va_S (yA lo) s.heap H locs) (hl : lv_has ls 14 [(0, .ref x0), (1, .int w1), (2, .int w2), (8, .int w8), (10, .long w10), (13, .int w13)]) : W p l e (headSpec wsM_mends ({ frames := 19, cells := 2689, slots := 21512, locals := 494 } : Room)).room s m args below meth c H locs (c0) (8 * (c0)) (MQ below (yQi D cy x0 lo r Tr) args s 2689 21512 (yA lo)) (F0 m 386 ls []) := by
  obtain ⟨hx, hb, hr, hml, hown, hts, hlocks, hK, hE, hlo, hlt⟩ := id C0
  unfold f_L_mends_386 at h
  refine lv_iconst (v := 1) hx hb dL_mends_386 (by decide) ?_
  refine lv_goto (tgt := 391) hx hb dL_mends_387 (by decide) ?_
  exact t_L_mends_391 C0 N hN (ch336 := ch336) (c0 := c0) hm336 hk336 (by omega) (by omega) h hW hS (lv_sub hl [0, 1, 2, 3, 4, 5] rfl)
noncomputable def f_L_mends_336 (N : Nat) : Nat → Int32 → Int32 → Int32 → Int32 → Int64 → Int32 → yT → Option (Int32 × yT)
  | 0, _, _, _, _, _, _, _ => none
  | n + 1, w1, w2, w4, w8, w10, w13, T =>
    (if w8 ≤ w13 then
    f_L_mends_399 N w4 T
    else
    (if w4 = 0 then
    f_L_mends_399 N w4 T
    else
    (f_L_some N (w1 >>> ((9 : Int32) &&& 31)) (2 : Int32)).bind fun q3 => (
    (if q3 = 0 then
    zbp (y_X6_mend T w2) fun q6 T8 => (
    zx q6 (fun _ => none) fun r9 => (
    (if r9 < 0 then
    f_L_mends_390 N (fun y1 y2 y4 y8 y10 y13 T => f_L_mends_336 N n y1 y2 y4 y8 y10 y13 T) w1 w2 w8 w10 w13 T8
    else
    (if w13 < (w8 - (1 : Int32)) then
    f_L_mends_386 N (fun y1 y2 y4 y8 y10 y13 T => f_L_mends_336 N n y1 y2 y4 y8 y10 y13 T) w1 w2 w8 w10 w13 T8
    else
    zbp (f_L_weights N T8) fun q12 T14 => (
    (if q12 = w10 then
    f_L_mends_386 N (fun y1 y2 y4 y8 y10 y13 T => f_L_mends_336 N n y1 y2 y4 y8 y10 y13 T) w1 w2 w8 w10 w13 T14
    else
    f_L_mends_390 N (fun y1 y2 y4 y8 y10 y13 T => f_L_mends_336 N n y1 y2 y4 y8 y10 y13 T) w1 w2 w8 w10 w13 T14))))))
    else
    f_L_mends_399 N w4 T))))
set_option maxRecDepth 100000 in
set_option maxHeartbeats 8000000 in
theorem t_L_mends_336 {p : Program} {l : Launch} {e : Env} {s : State} {m : MethodId} {args : Array Value} {below : List Frame} {meth : Method} {c : Code} {D : va_G} {cy : Nat → ClassId} {x0 lo : Nat} (C0 : yCx p l s m c meth args cL_mends 14 wsM_mends RL (some .boolean) D cy lo) (N : Nat) (hN : 10000000 ≤ N) {r : Int32} {Tr : yT} : ∀ (n c0 : Nat) {w1 : Int32} {w2 : Int32} {w4 : Int32} {w8 : Int32} {w10 : Int64} {w13 : Int32} {T : yT}, c0 + n * 61 + 0 ≤ 2689 → f_L_mends_336 N n w1 w2 w4 w8 w10 w13 T = some (r, Tr) → ∀ {H : Heap} {locs : List Loc} {ls : Array Slot}, yWd D cy x0 lo T H → va_S (yA lo) s.heap H locs → lv_has ls 14 [(0, .ref x0), (1, .int w1), (2, .int w2), (4, .int w4), (8, .int w8), (10, .long w10), (13, .int w13)] → W p l e (headSpec wsM_mends ({ frames := 19, cells := 2689, slots := 21512, locals := 494 } : Room)).room s m args below meth c H locs (c0) (8 * (c0)) (MQ below (yQi D cy x0 lo r Tr) args s 2689 21512 (yA lo)) (F0 m 336 ls []) := by
  obtain ⟨hx, hb, hr, hml, hown, hts, hlocks, hK, hE, hlo, hlt⟩ := id C0
  intro n
  induction n with
  | zero =>
    intro c0 w1 w2 w4 w8 w10 w13 T hc h
    cases (show (none : Option (Int32 × yT)) = some (r, Tr) from h)
  | succ n ih =>
    intro c0 w1 w2 w4 w8 w10 w13 T hc h H locs ls hW hS hl
    rw [f_L_mends_336] at h
    refine lv_iload hx hb dL_mends_336 (lv_at hl 6 rfl) ?_
    refine lv_iload hx hb dL_mends_338 (lv_at hl 4 rfl) ?_
    refine lv_icmp_ge (tgt := 399) hx hb dL_mends_340 (by decide) (fun c1 => ?_) (fun c1 => ?_)
    · have h := zip c1 h
      exact t_L_mends_399 C0 N hN (c0 := c0)  (by omega) h hW hS (lv_sub hl [3] rfl)
    · have h := zin c1 h
      refine lv_iload hx hb dL_mends_343 (lv_at hl 3 rfl) ?_
      refine lv_if_eq (tgt := 399) hx hb dL_mends_345 (by decide) (fun c2 => ?_) (fun c2 => ?_)
      · have h := zip c2 h
        exact t_L_mends_399 C0 N hN (c0 := c0)  (by omega) h hW hS (lv_sub hl [3] rfl)
      · have h := zin c2 h
        refine lv_iload_n hx hb dL_mends_348 rfl (lv_at hl 1 rfl) ?_
        refine lv_bipush (v := 9) hx hb dL_mends_349 (by decide) ?_
        refine lv_ishr hx hb dL_mends_351 ?_
        refine lv_iconst (v := 2) hx hb dL_mends_352 (by decide) ?_
        obtain ⟨q3, e4, h⟩ := zb_some h
        refine y_calli hS (va_runS (As := [.int (w1 >>> ((9 : Int32) &&& 31)), .int (2 : Int32)]) (rest := []) ⟨hx, hb, hml, hown, hts⟩ (m_L_some l hlt N hN (T := T) e4) (va_cwS 2 hts (gM_L_some wsM_up) rfl rfl rfl (by decide +kernel) ⟨Nat.le_of_ble_eq_true rfl, Nat.le_of_ble_eq_true rfl⟩) (y_preS hK hE hlo hW hS [.int (w1 >>> ((9 : Int32) &&& 31)), .int (2 : Int32)]) rfl rfl hl.1 rfl (lv_room (Nat.le_of_ble_eq_true rfl)) dL_mends_353 ⟨by show c0 + 0 ≤ 2689; omega, by show 8 * (c0) + 0 ≤ 21512; omega⟩) (fun H locs hW hS => ?_)
        refine lv_if_ne (tgt := 399) hx hb dL_mends_356 (by decide) (fun c5 => ?_) (fun c5 => ?_)
        · have h := zin c5 h
          exact t_L_mends_399 C0 N hN (c0 := c0)  (by omega) h hW hS (lv_sub hl [3] rfl)
        · have h := zip c5 h
          refine lv_aload_n hx hb dL_mends_359 rfl (lv_at hl 0 rfl) ?_
          refine lv_iload_n hx hb dL_mends_360 rfl (lv_at hl 2 rfl) ?_
          obtain ⟨q6, T8, e7, h⟩ := zbp_some h
          refine y_xcalli hS (vx_runV (As := [.int w2]) (rest := []) ⟨hx, hb, hml, hown, hts⟩ (n_X6_mend l hlt N hN e7) (cwV 1 hts (gM_X6_mend wsM_up) rfl rfl rfl (by decide +kernel) ⟨Nat.le_of_ble_eq_true rfl, Nat.le_of_ble_eq_true rfl⟩) (y_preV hK hE hlo hW hS [.int w2]) rfl rfl hl.1 rfl (lv_room (Nat.le_of_ble_eq_true rfl)) dL_mends_361 ⟨by show c0 + 3 ≤ 2689; omega, by show 8 * (c0) + 18 ≤ 21512; omega⟩) (fun k hk H locs q9 ce hW hS hce hcv hcl => by subst hk; cases (show (none : Option (Int32 × yT)) = some (r, Tr) from zx_l h)) (fun r9 hk H locs hW hS => ?_)
          subst hk
          have h := zx_r h
          refine W.widen (k := c0 + 3) (n := 8 * (c0 + 3)) (by omega) (by omega) ?_
          refine lv_if_lt (tgt := 390) hx hb dL_mends_364 (by decide) (fun c10 => ?_) (fun c10 => ?_)
          · have h := zip c10 h
            exact t_L_mends_390 C0 N hN (ch336 := c0 + 61) (c0 := c0 + 3) (by omega) (fun h _ _ _ hW hS hl => ih (c0 + 61) (by omega) h hW hS hl) (by omega) (by omega) h hW hS (lv_sub hl [0, 1, 2, 4, 5, 6] rfl)
          · have h := zin c10 h
            refine lv_iload hx hb dL_mends_367 (lv_at hl 6 rfl) ?_
            refine lv_iload hx hb dL_mends_369 (lv_at hl 4 rfl) ?_
            refine lv_iconst (v := 1) hx hb dL_mends_371 (by decide) ?_
            refine lv_isub hx hb dL_mends_372 ?_
            refine lv_icmp_lt (tgt := 386) hx hb dL_mends_373 (by decide) (fun c11 => ?_) (fun c11 => ?_)
            · have h := zip c11 h
              exact t_L_mends_386 C0 N hN (ch336 := c0 + 61) (c0 := c0 + 3) (by omega) (fun h _ _ _ hW hS hl => ih (c0 + 61) (by omega) h hW hS hl) (by omega) (by omega) h hW hS (lv_sub hl [0, 1, 2, 4, 5, 6] rfl)
            · have h := zin c11 h
              refine lv_aload_n hx hb dL_mends_376 rfl (lv_at hl 0 rfl) ?_
              obtain ⟨q12, T14, e13, h⟩ := zbp_some h
              refine y_calll hS (va_runS (As := [.ref x0]) (rest := []) ⟨hx, hb, hml, hown, hts⟩ (m_L_weights l hlt N hN e13) (va_cwS 1 hts (gM_L_weights wsM_up) rfl rfl rfl (by decide +kernel) ⟨Nat.le_of_ble_eq_true rfl, Nat.le_of_ble_eq_true rfl⟩) (y_preS hK hE hlo hW hS [.ref x0]) rfl rfl hl.1 rfl (lv_room (Nat.le_of_ble_eq_true rfl)) dL_mends_377 ⟨by show c0 + 3 + 58 ≤ 2689; omega, by show 8 * (c0 + 3) + 464 ≤ 21512; omega⟩) (fun H locs hW hS => ?_)
              refine W.widen (k := c0 + 61) (n := 8 * (c0 + 61)) (by omega) (by omega) ?_
              refine lv_lload hx hb dL_mends_380 (lv_at hl 5 rfl) ?_
              refine z_lc_ne (tgt := 390) hx hb dL_mends_382 dL_mends_383 (by decide) (fun c15 => ?_) (fun c15 => ?_)
              · have h := zin c15 h
                exact t_L_mends_390 C0 N hN (ch336 := c0 + 61) (c0 := c0 + 61) (by omega) (fun h _ _ _ hW hS hl => ih (c0 + 61) (by omega) h hW hS hl) (by omega) (by omega) h hW hS (lv_sub hl [0, 1, 2, 4, 5, 6] rfl)
              · have h := zip c15 h
                exact t_L_mends_386 C0 N hN (ch336 := c0 + 61) (c0 := c0 + 61) (by omega) (fun h _ _ _ hW hS hl => ih (c0 + 61) (by omega) h hW hS hl) (by omega) (by omega) h hW hS (lv_sub hl [0, 1, 2, 4, 5, 6] rfl)
noncomputable def f_L_mends_331 (N : Nat) (w1 : Int32) (w2 : Int32) (w8 : Int32) (w10 : Int64) (s0 : Int32) (T : yT) : Option (Int32 × yT) :=
f_L_mends_336 N 6 w1 w2 s0 w8 w10 (0 : Int32) T
set_option maxRecDepth 100000 in
set_option maxHeartbeats 8000000 in
theorem t_L_mends_331 {p : Program} {l : Launch} {e : Env} {s : State} {m : MethodId} {args : Array Value} {below : List Frame} {meth : Method} {c : Code} {D : va_G} {cy : Nat → ClassId} {x0 lo : Nat} (C0 : yCx p l s m c meth args cL_mends 14 wsM_mends RL (some .boolean) D cy lo) (N : Nat) (hN : 10000000 ≤ N) {c0 : Nat} {w1 : Int32} {w2 : Int32} {w8 : Int32} {w10 : Int64} {s0 : Int32} {T : yT} {r : Int32} {Tr : yT} (hc : c0 + 366 ≤ 2689) (h : f_L_mends_331 N w1 w2 w8 w10 s0 T = some (r, Tr)) {H : Heap} {locs : List Loc} {ls : Array Slot} (hW : yWd D cy x0 lo T H) (hS : va_S (yA lo) s.heap H locs) (hl : lv_has ls 14 [(0, .ref x0), (1, .int w1), (2, .int w2), (8, .int w8), (10, .long w10)]) : W p l e (headSpec wsM_mends ({ frames := 19, cells := 2689, slots := 21512, locals := 494 } : Room)).room s m args below meth c H locs (c0) (8 * (c0)) (MQ below (yQi D cy x0 lo r Tr) args s 2689 21512 (yA lo)) (F0 m 331 ls [.int s0]) := by
  obtain ⟨hx, hb, hr, hml, hown, hts, hlocks, hK, hE, hlo, hlt⟩ := id C0
  unfold f_L_mends_331 at h
  refine lv_istore (lv' := [(4, .int s0), (0, .ref x0), (1, .int w1), (2, .int w2), (8, .int w8), (10, .long w10)]) hx hb dL_mends_331 hl (by decide) rfl (fun ls hl => ?_)
  refine lv_iconst (v := 0) hx hb dL_mends_333 (by decide) ?_
  refine lv_istore (lv' := [(13, .int (0 : Int32)), (4, .int s0), (0, .ref x0), (1, .int w1), (2, .int w2), (8, .int w8), (10, .long w10)]) hx hb dL_mends_334 hl (by decide) rfl (fun ls hl => ?_)
  exact t_L_mends_336 C0 N hN  6 (c0) (by omega) h hW hS (lv_sub hl [2, 3, 4, 1, 5, 6, 0] rfl)
noncomputable def f_L_mends_330 (N : Nat) (w1 : Int32) (w2 : Int32) (w8 : Int32) (w10 : Int64) (T : yT) : Option (Int32 × yT) :=
f_L_mends_331 N w1 w2 w8 w10 (0 : Int32) T
set_option maxRecDepth 100000 in
set_option maxHeartbeats 8000000 in
theorem t_L_mends_330 {p : Program} {l : Launch} {e : Env} {s : State} {m : MethodId} {args : Array Value} {below : List Frame} {meth : Method} {c : Code} {D : va_G} {cy : Nat → ClassId} {x0 lo : Nat} (C0 : yCx p l s m c meth args cL_mends 14 wsM_mends RL (some .boolean) D cy lo) (N : Nat) (hN : 10000000 ≤ N) {c0 : Nat} {w1 : Int32} {w2 : Int32} {w8 : Int32} {w10 : Int64} {T : yT} {r : Int32} {Tr : yT} (hc : c0 + 366 ≤ 2689) (h : f_L_mends_330 N w1 w2 w8 w10 T = some (r, Tr)) {H : Heap} {locs : List Loc} {ls : Array Slot} (hW : yWd D cy x0 lo T H) (hS : va_S (yA lo) s.heap H locs) (hl : lv_has ls 14 [(0, .ref x0), (1, .int w1), (2, .int w2), (8, .int w8), (10, .long w10)]) : W p l e (headSpec wsM_mends ({ frames := 19, cells := 2689, slots := 21512, locals := 494 } : Room)).room s m args below meth c H locs (c0) (8 * (c0)) (MQ below (yQi D cy x0 lo r Tr) args s 2689 21512 (yA lo)) (F0 m 330 ls []) := by
  obtain ⟨hx, hb, hr, hml, hown, hts, hlocks, hK, hE, hlo, hlt⟩ := id C0
  unfold f_L_mends_330 at h
  refine lv_iconst (v := 0) hx hb dL_mends_330 (by decide) ?_
  exact t_L_mends_331 C0 N hN (c0 := c0)  (by omega) h hW hS (lv_sub hl [0, 1, 2, 3, 4] rfl)
noncomputable def f_L_mends_311 (N : Nat) (w1 : Int32) (w2 : Int32) (w4 : Int32) (w5 : Int64) (w8 : Int32) (w10 : Int64) (T : yT) : Option (Int32 × yT) :=
(if w4 = 0 then
f_L_mends_330 N w1 w2 w8 w10 T
else
zbp (f_L_all N T) fun q2 T4 => (
(if q2 = w5 then
f_L_mends_331 N w1 w2 w8 w10 (1 : Int32) T4
else
f_L_mends_330 N w1 w2 w8 w10 T4)))
set_option maxRecDepth 100000 in
set_option maxHeartbeats 8000000 in
theorem t_L_mends_311 {p : Program} {l : Launch} {e : Env} {s : State} {m : MethodId} {args : Array Value} {below : List Frame} {meth : Method} {c : Code} {D : va_G} {cy : Nat → ClassId} {x0 lo : Nat} (C0 : yCx p l s m c meth args cL_mends 14 wsM_mends RL (some .boolean) D cy lo) (N : Nat) (hN : 10000000 ≤ N) {c0 : Nat} {w1 : Int32} {w2 : Int32} {w4 : Int32} {w5 : Int64} {w8 : Int32} {w10 : Int64} {T : yT} {r : Int32} {Tr : yT} (hc : c0 + 1467 ≤ 2689) (h : f_L_mends_311 N w1 w2 w4 w5 w8 w10 T = some (r, Tr)) {H : Heap} {locs : List Loc} {ls : Array Slot} (hW : yWd D cy x0 lo T H) (hS : va_S (yA lo) s.heap H locs) (hl : lv_has ls 14 [(0, .ref x0), (1, .int w1), (2, .int w2), (4, .int w4), (5, .long w5), (8, .int w8), (10, .long w10)]) : W p l e (headSpec wsM_mends ({ frames := 19, cells := 2689, slots := 21512, locals := 494 } : Room)).room s m args below meth c H locs (c0) (8 * (c0)) (MQ below (yQi D cy x0 lo r Tr) args s 2689 21512 (yA lo)) (F0 m 311 ls []) := by
  obtain ⟨hx, hb, hr, hml, hown, hts, hlocks, hK, hE, hlo, hlt⟩ := id C0
  unfold f_L_mends_311 at h
  refine lv_iload hx hb dL_mends_311 (lv_at hl 3 rfl) ?_
  refine lv_if_eq (tgt := 330) hx hb dL_mends_313 (by decide) (fun c1 => ?_) (fun c1 => ?_)
  · have h := zip c1 h
    exact t_L_mends_330 C0 N hN (c0 := c0)  (by omega) h hW hS (lv_sub hl [0, 1, 2, 5, 6] rfl)
  · have h := zin c1 h
    refine lv_aload_n hx hb dL_mends_316 rfl (lv_at hl 0 rfl) ?_
    obtain ⟨q2, T4, e3, h⟩ := zbp_some h
    refine y_calll hS (va_runS (As := [.ref x0]) (rest := []) ⟨hx, hb, hml, hown, hts⟩ (m_L_all l hlt N hN e3) (va_cwS 1 hts (gM_L_all wsM_up) rfl rfl rfl (by decide +kernel) ⟨Nat.le_of_ble_eq_true rfl, Nat.le_of_ble_eq_true rfl⟩) (y_preS hK hE hlo hW hS [.ref x0]) rfl rfl hl.1 rfl (lv_room (Nat.le_of_ble_eq_true rfl)) dL_mends_317 ⟨by show c0 + 1101 ≤ 2689; omega, by show 8 * (c0) + 8808 ≤ 21512; omega⟩) (fun H locs hW hS => ?_)
    refine W.widen (k := c0 + 1101) (n := 8 * (c0 + 1101)) (by omega) (by omega) ?_
    refine lv_lload hx hb dL_mends_320 (lv_at hl 4 rfl) ?_
    refine z_lc_ne (tgt := 330) hx hb dL_mends_322 dL_mends_323 (by decide) (fun c5 => ?_) (fun c5 => ?_)
    · have h := zin c5 h
      exact t_L_mends_330 C0 N hN (c0 := c0 + 1101)  (by omega) h hW hS (lv_sub hl [0, 1, 2, 5, 6] rfl)
    · have h := zip c5 h
      refine lv_iconst (v := 1) hx hb dL_mends_326 (by decide) ?_
      refine lv_goto (tgt := 331) hx hb dL_mends_327 (by decide) ?_
      exact t_L_mends_331 C0 N hN (c0 := c0 + 1101)  (by omega) h hW hS (lv_sub hl [0, 1, 2, 5, 6] rfl)
noncomputable def f_L_mends_303 (N : Nat) (kh274 : Int32 → Int32 → Int32 → Int64 → Int32 → Int64 → Int32 → Int32 → yT → Option (Int32 × yT)) (w1 : Int32) (w2 : Int32) (w5 : Int64) (w8 : Int32) (w10 : Int64) (w12 : Int32) (w13 : Int32) (s0 : Int32) (T : yT) : Option (Int32 × yT) :=
kh274 w1 w2 s0 w5 w8 w10 w12 (w13 + 1) T
set_option maxRecDepth 100000 in
set_option maxHeartbeats 8000000 in
theorem t_L_mends_303 {p : Program} {l : Launch} {e : Env} {s : State} {m : MethodId} {args : Array Value} {below : List Frame} {meth : Method} {c : Code} {D : va_G} {cy : Nat → ClassId} {x0 lo : Nat} (C0 : yCx p l s m c meth args cL_mends 14 wsM_mends RL (some .boolean) D cy lo) (N : Nat) (hN : 10000000 ≤ N) {kh274 : Int32 → Int32 → Int32 → Int64 → Int32 → Int64 → Int32 → Int32 → yT → Option (Int32 × yT)} {ch274 : Nat} {c0 : Nat} {w1 : Int32} {w2 : Int32} {w5 : Int64} {w8 : Int32} {w10 : Int64} {w12 : Int32} {w13 : Int32} {s0 : Int32} {T : yT} {r : Int32} {Tr : yT} (hm274 : ch274 ≤ 2689) (hk274 : ∀ {y1 : Int32} {y2 : Int32} {y4 : Int32} {y5 : Int64} {y8 : Int32} {y10 : Int64} {y12 : Int32} {y13 : Int32} {T : yT}, kh274 y1 y2 y4 y5 y8 y10 y12 y13 T = some (r, Tr) → ∀ {H : Heap} {locs : List Loc} {ls : Array Slot}, yWd D cy x0 lo T H → va_S (yA lo) s.heap H locs → lv_has ls 14 [(0, .ref x0), (1, .int y1), (2, .int y2), (4, .int y4), (5, .long y5), (8, .int y8), (10, .long y10), (12, .int y12), (13, .int y13)] → W p l e (headSpec wsM_mends ({ frames := 19, cells := 2689, slots := 21512, locals := 494 } : Room)).room s m args below meth c H locs (ch274) (8 * (ch274)) (MQ below (yQi D cy x0 lo r Tr) args s 2689 21512 (yA lo)) (F0 m 274 ls [])) (hc : c0 + 0 ≤ 2689) (he274 : c0 + 0 ≤ ch274) (h : f_L_mends_303 N kh274 w1 w2 w5 w8 w10 w12 w13 s0 T = some (r, Tr)) {H : Heap} {locs : List Loc} {ls : Array Slot} (hW : yWd D cy x0 lo T H) (hS : va_S (yA lo) s.heap H locs) (hl : lv_has ls 14 [(0, .ref x0), (1, .int w1), (2, .int w2), (5, .long w5), (8, .int w8), (10, .long w10), (12, .int w12), (13, .int w13)]) : W p l e (headSpec wsM_mends ({ frames := 19, cells := 2689, slots := 21512, locals := 494 } : Room)).room s m args below meth c H locs (c0) (8 * (c0)) (MQ below (yQi D cy x0 lo r Tr) args s 2689 21512 (yA lo)) (F0 m 303 ls [.int s0]) := by
  obtain ⟨hx, hb, hr, hml, hown, hts, hlocks, hK, hE, hlo, hlt⟩ := id C0
  unfold f_L_mends_303 at h
  refine lv_istore (lv' := [(4, .int s0), (0, .ref x0), (1, .int w1), (2, .int w2), (5, .long w5), (8, .int w8), (10, .long w10), (12, .int w12), (13, .int w13)]) hx hb dL_mends_303 hl (by decide) rfl (fun ls hl => ?_)
  refine lv_iinc (k := 8) (v := (w13 + 1)) (lv' := [(13, .int (w13 + 1)), (4, .int s0), (0, .ref x0), (1, .int w1), (2, .int w2), (5, .long w5), (8, .int w8), (10, .long w10), (12, .int w12)]) hx hb dL_mends_305 hl rfl (by rw [show Int32.ofInt 1 = (1 : Int32) from by decide]) (by decide) rfl (fun ls hl => ?_)
  refine lv_goto (tgt := 274) hx hb dL_mends_308 (by decide) ?_
  refine W.widen (k := ch274) (n := 8 * ch274) (by omega) (by omega) ?_
  exact hk274 h hW hS (lv_sub hl [2, 3, 4, 1, 5, 6, 7, 8, 0] rfl)
noncomputable def f_L_mends_274 (N : Nat) : Nat → Int32 → Int32 → Int32 → Int64 → Int32 → Int64 → Int32 → Int32 → yT → Option (Int32 × yT)
  | 0, _, _, _, _, _, _, _, _, _ => none
  | n + 1, w1, w2, w4, w5, w8, w10, w12, w13, T =>
    (if w8 ≤ w13 then
    f_L_mends_311 N w1 w2 w4 w5 w8 w10 T
    else
    (if w4 = 0 then
    f_L_mends_311 N w1 w2 w4 w5 w8 w10 T
    else
    zbp (y_X6_rollBack T) fun q3 T5 => (
    zx q3 (fun _ => none) fun r6 => (
    (if r6 = (w12 - w13) then
    f_L_mends_303 N (fun y1 y2 y4 y5 y8 y10 y12 y13 T => f_L_mends_274 N n y1 y2 y4 y5 y8 y10 y12 y13 T) w1 w2 w5 w8 w10 w12 w13 (1 : Int32) T5
    else
    f_L_mends_303 N (fun y1 y2 y4 y5 y8 y10 y12 y13 T => f_L_mends_274 N n y1 y2 y4 y5 y8 y10 y12 y13 T) w1 w2 w5 w8 w10 w12 w13 (0 : Int32) T5)))))
set_option maxRecDepth 100000 in
set_option maxHeartbeats 8000000 in
theorem t_L_mends_274 {p : Program} {l : Launch} {e : Env} {s : State} {m : MethodId} {args : Array Value} {below : List Frame} {meth : Method} {c : Code} {D : va_G} {cy : Nat → ClassId} {x0 lo : Nat} (C0 : yCx p l s m c meth args cL_mends 14 wsM_mends RL (some .boolean) D cy lo) (N : Nat) (hN : 10000000 ≤ N) {r : Int32} {Tr : yT} : ∀ (n c0 : Nat) {w1 : Int32} {w2 : Int32} {w4 : Int32} {w5 : Int64} {w8 : Int32} {w10 : Int64} {w12 : Int32} {w13 : Int32} {T : yT}, c0 + n * 1 + 1467 ≤ 2689 → f_L_mends_274 N n w1 w2 w4 w5 w8 w10 w12 w13 T = some (r, Tr) → ∀ {H : Heap} {locs : List Loc} {ls : Array Slot}, yWd D cy x0 lo T H → va_S (yA lo) s.heap H locs → lv_has ls 14 [(0, .ref x0), (1, .int w1), (2, .int w2), (4, .int w4), (5, .long w5), (8, .int w8), (10, .long w10), (12, .int w12), (13, .int w13)] → W p l e (headSpec wsM_mends ({ frames := 19, cells := 2689, slots := 21512, locals := 494 } : Room)).room s m args below meth c H locs (c0) (8 * (c0)) (MQ below (yQi D cy x0 lo r Tr) args s 2689 21512 (yA lo)) (F0 m 274 ls []) := by
  obtain ⟨hx, hb, hr, hml, hown, hts, hlocks, hK, hE, hlo, hlt⟩ := id C0
  intro n
  induction n with
  | zero =>
    intro c0 w1 w2 w4 w5 w8 w10 w12 w13 T hc h
    cases (show (none : Option (Int32 × yT)) = some (r, Tr) from h)
  | succ n ih =>
    intro c0 w1 w2 w4 w5 w8 w10 w12 w13 T hc h H locs ls hW hS hl
    rw [f_L_mends_274] at h
    refine lv_iload hx hb dL_mends_274 (lv_at hl 8 rfl) ?_
    refine lv_iload hx hb dL_mends_276 (lv_at hl 5 rfl) ?_
    refine lv_icmp_ge (tgt := 311) hx hb dL_mends_278 (by decide) (fun c1 => ?_) (fun c1 => ?_)
    · have h := zip c1 h
      exact t_L_mends_311 C0 N hN (c0 := c0)  (by omega) h hW hS (lv_sub hl [0, 1, 2, 3, 4, 5, 6] rfl)
    · have h := zin c1 h
      refine lv_iload hx hb dL_mends_281 (lv_at hl 3 rfl) ?_
      refine lv_if_eq (tgt := 311) hx hb dL_mends_283 (by decide) (fun c2 => ?_) (fun c2 => ?_)
      · have h := zip c2 h
        exact t_L_mends_311 C0 N hN (c0 := c0)  (by omega) h hW hS (lv_sub hl [0, 1, 2, 3, 4, 5, 6] rfl)
      · have h := zin c2 h
        refine lv_aload_n hx hb dL_mends_286 rfl (lv_at hl 0 rfl) ?_
        obtain ⟨q3, T5, e4, h⟩ := zbp_some h
        refine y_xcalli hS (vx_runV (As := []) (rest := []) ⟨hx, hb, hml, hown, hts⟩ (n_X6_rollBack l hlt N hN e4) (cwV 0 hts (gM_X6_rollBack wsM_up) rfl rfl rfl (by decide +kernel) ⟨Nat.le_of_ble_eq_true rfl, Nat.le_of_ble_eq_true rfl⟩) (y_preV hK hE hlo hW hS []) rfl rfl hl.1 rfl (lv_room (Nat.le_of_ble_eq_true rfl)) dL_mends_287 ⟨by show c0 + 1 ≤ 2689; omega, by show 8 * (c0) + 6 ≤ 21512; omega⟩) (fun k hk H locs q9 ce hW hS hce hcv hcl => by subst hk; cases (show (none : Option (Int32 × yT)) = some (r, Tr) from zx_l h)) (fun r6 hk H locs hW hS => ?_)
        subst hk
        have h := zx_r h
        refine W.widen (k := c0 + 1) (n := 8 * (c0 + 1)) (by omega) (by omega) ?_
        refine lv_iload hx hb dL_mends_290 (lv_at hl 7 rfl) ?_
        refine lv_iload hx hb dL_mends_292 (lv_at hl 8 rfl) ?_
        refine lv_isub hx hb dL_mends_294 ?_
        refine lv_icmp_ne (tgt := 302) hx hb dL_mends_295 (by decide) (fun c7 => ?_) (fun c7 => ?_)
        · have h := zin c7 h
          refine lv_iconst (v := 0) hx hb dL_mends_302 (by decide) ?_
          exact t_L_mends_303 C0 N hN (ch274 := c0 + 1) (c0 := c0 + 1) (by omega) (fun h _ _ _ hW hS hl => ih (c0 + 1) (by omega) h hW hS hl) (by omega) (by omega) h hW hS (lv_sub hl [0, 1, 2, 4, 5, 6, 7, 8] rfl)
        · have h := zip c7 h
          refine lv_iconst (v := 1) hx hb dL_mends_298 (by decide) ?_
          refine lv_goto (tgt := 303) hx hb dL_mends_299 (by decide) ?_
          exact t_L_mends_303 C0 N hN (ch274 := c0 + 1) (c0 := c0 + 1) (by omega) (fun h _ _ _ hW hS hl => ih (c0 + 1) (by omega) h hW hS hl) (by omega) (by omega) h hW hS (lv_sub hl [0, 1, 2, 4, 5, 6, 7, 8] rfl)
noncomputable def f_L_mends_269 (N : Nat) (w1 : Int32) (w2 : Int32) (w5 : Int64) (w8 : Int32) (w10 : Int64) (w12 : Int32) (s0 : Int32) (T : yT) : Option (Int32 × yT) :=
f_L_mends_274 N 6 w1 w2 s0 w5 w8 w10 w12 (1 : Int32) T
set_option maxRecDepth 100000 in
set_option maxHeartbeats 8000000 in
theorem t_L_mends_269 {p : Program} {l : Launch} {e : Env} {s : State} {m : MethodId} {args : Array Value} {below : List Frame} {meth : Method} {c : Code} {D : va_G} {cy : Nat → ClassId} {x0 lo : Nat} (C0 : yCx p l s m c meth args cL_mends 14 wsM_mends RL (some .boolean) D cy lo) (N : Nat) (hN : 10000000 ≤ N) {c0 : Nat} {w1 : Int32} {w2 : Int32} {w5 : Int64} {w8 : Int32} {w10 : Int64} {w12 : Int32} {s0 : Int32} {T : yT} {r : Int32} {Tr : yT} (hc : c0 + 1473 ≤ 2689) (h : f_L_mends_269 N w1 w2 w5 w8 w10 w12 s0 T = some (r, Tr)) {H : Heap} {locs : List Loc} {ls : Array Slot} (hW : yWd D cy x0 lo T H) (hS : va_S (yA lo) s.heap H locs) (hl : lv_has ls 14 [(0, .ref x0), (1, .int w1), (2, .int w2), (5, .long w5), (8, .int w8), (10, .long w10), (12, .int w12)]) : W p l e (headSpec wsM_mends ({ frames := 19, cells := 2689, slots := 21512, locals := 494 } : Room)).room s m args below meth c H locs (c0) (8 * (c0)) (MQ below (yQi D cy x0 lo r Tr) args s 2689 21512 (yA lo)) (F0 m 269 ls [.int s0]) := by
  obtain ⟨hx, hb, hr, hml, hown, hts, hlocks, hK, hE, hlo, hlt⟩ := id C0
  unfold f_L_mends_269 at h
  refine lv_istore (lv' := [(4, .int s0), (0, .ref x0), (1, .int w1), (2, .int w2), (5, .long w5), (8, .int w8), (10, .long w10), (12, .int w12)]) hx hb dL_mends_269 hl (by decide) rfl (fun ls hl => ?_)
  refine lv_iconst (v := 1) hx hb dL_mends_271 (by decide) ?_
  refine lv_istore (lv' := [(13, .int (1 : Int32)), (4, .int s0), (0, .ref x0), (1, .int w1), (2, .int w2), (5, .long w5), (8, .int w8), (10, .long w10), (12, .int w12)]) hx hb dL_mends_272 hl (by decide) rfl (fun ls hl => ?_)
  exact t_L_mends_274 C0 N hN  6 (c0) (by omega) h hW hS (lv_sub hl [2, 3, 4, 1, 5, 6, 7, 8, 0] rfl)
noncomputable def f_L_mends_268 (N : Nat) (w1 : Int32) (w2 : Int32) (w5 : Int64) (w8 : Int32) (w10 : Int64) (w12 : Int32) (T : yT) : Option (Int32 × yT) :=
f_L_mends_269 N w1 w2 w5 w8 w10 w12 (0 : Int32) T
set_option maxRecDepth 100000 in
set_option maxHeartbeats 8000000 in
theorem t_L_mends_268 {p : Program} {l : Launch} {e : Env} {s : State} {m : MethodId} {args : Array Value} {below : List Frame} {meth : Method} {c : Code} {D : va_G} {cy : Nat → ClassId} {x0 lo : Nat} (C0 : yCx p l s m c meth args cL_mends 14 wsM_mends RL (some .boolean) D cy lo) (N : Nat) (hN : 10000000 ≤ N) {c0 : Nat} {w1 : Int32} {w2 : Int32} {w5 : Int64} {w8 : Int32} {w10 : Int64} {w12 : Int32} {T : yT} {r : Int32} {Tr : yT} (hc : c0 + 1473 ≤ 2689) (h : f_L_mends_268 N w1 w2 w5 w8 w10 w12 T = some (r, Tr)) {H : Heap} {locs : List Loc} {ls : Array Slot} (hW : yWd D cy x0 lo T H) (hS : va_S (yA lo) s.heap H locs) (hl : lv_has ls 14 [(0, .ref x0), (1, .int w1), (2, .int w2), (5, .long w5), (8, .int w8), (10, .long w10), (12, .int w12)]) : W p l e (headSpec wsM_mends ({ frames := 19, cells := 2689, slots := 21512, locals := 494 } : Room)).room s m args below meth c H locs (c0) (8 * (c0)) (MQ below (yQi D cy x0 lo r Tr) args s 2689 21512 (yA lo)) (F0 m 268 ls []) := by
  obtain ⟨hx, hb, hr, hml, hown, hts, hlocks, hK, hE, hlo, hlt⟩ := id C0
  unfold f_L_mends_268 at h
  refine lv_iconst (v := 0) hx hb dL_mends_268 (by decide) ?_
  exact t_L_mends_269 C0 N hN (c0 := c0)  (by omega) h hW hS (lv_sub hl [0, 1, 2, 3, 4, 5, 6] rfl)
noncomputable def f_L_mends_217 (N : Nat) (w1 : Int32) (w2 : Int32) (w4 : Int32) (w5 : Int64) (w7 : Int32) (w8 : Int32) (T : yT) : Option (Int32 × yT) :=
zbp (f_L_weights N T) fun q1 T3 => (
zbp (y_X6_rollBack T3) fun q4 T6 => (
zx q4 (fun _ => none) fun r7 => (
(if w4 = 0 then
f_L_mends_268 N w1 w2 w5 w8 q1 r7 T6
else
zbp (y_X6_steps T6) fun q9 T11 => (
zx q9 (fun _ => none) fun r12 => (
(if r12 = ((w7 + w8) - (1 : Int32)) then
(if r7 < (w8 - (1 : Int32)) then
f_L_mends_268 N w1 w2 w5 w8 q1 r7 T11
else
(if (20 : Int32) ≤ r7 then
f_L_mends_268 N w1 w2 w5 w8 q1 r7 T11
else
f_L_mends_269 N w1 w2 w5 w8 q1 r7 (1 : Int32) T11))
else
f_L_mends_268 N w1 w2 w5 w8 q1 r7 T11)))))))
set_option maxRecDepth 100000 in
set_option maxHeartbeats 8000000 in
theorem t_L_mends_217 {p : Program} {l : Launch} {e : Env} {s : State} {m : MethodId} {args : Array Value} {below : List Frame} {meth : Method} {c : Code} {D : va_G} {cy : Nat → ClassId} {x0 lo : Nat} (C0 : yCx p l s m c meth args cL_mends 14 wsM_mends RL (some .boolean) D cy lo) (N : Nat) (hN : 10000000 ≤ N) {c0 : Nat} {w1 : Int32} {w2 : Int32} {w4 : Int32} {w5 : Int64} {w7 : Int32} {w8 : Int32} {T : yT} {r : Int32} {Tr : yT} (hc : c0 + 1532 ≤ 2689) (h : f_L_mends_217 N w1 w2 w4 w5 w7 w8 T = some (r, Tr)) {H : Heap} {locs : List Loc} {ls : Array Slot} (hW : yWd D cy x0 lo T H) (hS : va_S (yA lo) s.heap H locs) (hl : lv_has ls 14 [(0, .ref x0), (1, .int w1), (2, .int w2), (4, .int w4), (5, .long w5), (7, .int w7), (8, .int w8)]) : W p l e (headSpec wsM_mends ({ frames := 19, cells := 2689, slots := 21512, locals := 494 } : Room)).room s m args below meth c H locs (c0) (8 * (c0)) (MQ below (yQi D cy x0 lo r Tr) args s 2689 21512 (yA lo)) (F0 m 217 ls []) := by
  obtain ⟨hx, hb, hr, hml, hown, hts, hlocks, hK, hE, hlo, hlt⟩ := id C0
  unfold f_L_mends_217 at h
  refine lv_aload_n hx hb dL_mends_217 rfl (lv_at hl 0 rfl) ?_
  obtain ⟨q1, T3, e2, h⟩ := zbp_some h
  refine y_calll hS (va_runS (As := [.ref x0]) (rest := []) ⟨hx, hb, hml, hown, hts⟩ (m_L_weights l hlt N hN e2) (va_cwS 1 hts (gM_L_weights wsM_up) rfl rfl rfl (by decide +kernel) ⟨Nat.le_of_ble_eq_true rfl, Nat.le_of_ble_eq_true rfl⟩) (y_preS hK hE hlo hW hS [.ref x0]) rfl rfl hl.1 rfl (lv_room (Nat.le_of_ble_eq_true rfl)) dL_mends_218 ⟨by show c0 + 58 ≤ 2689; omega, by show 8 * (c0) + 464 ≤ 21512; omega⟩) (fun H locs hW hS => ?_)
  refine W.widen (k := c0 + 58) (n := 8 * (c0 + 58)) (by omega) (by omega) ?_
  refine lv_lstore (lv' := [(10, .long q1), (0, .ref x0), (1, .int w1), (2, .int w2), (4, .int w4), (5, .long w5), (7, .int w7), (8, .int w8)]) hx hb dL_mends_221 hl (by decide) rfl (fun ls hl => ?_)
  refine lv_aload_n hx hb dL_mends_223 rfl (lv_at hl 1 rfl) ?_
  obtain ⟨q4, T6, e5, h⟩ := zbp_some h
  refine y_xcalli hS (vx_runV (As := []) (rest := []) ⟨hx, hb, hml, hown, hts⟩ (n_X6_rollBack l hlt N hN e5) (cwV 0 hts (gM_X6_rollBack wsM_up) rfl rfl rfl (by decide +kernel) ⟨Nat.le_of_ble_eq_true rfl, Nat.le_of_ble_eq_true rfl⟩) (y_preV hK hE hlo hW hS []) rfl rfl hl.1 rfl (lv_room (Nat.le_of_ble_eq_true rfl)) dL_mends_224 ⟨by show c0 + 58 + 1 ≤ 2689; omega, by show 8 * (c0 + 58) + 6 ≤ 21512; omega⟩) (fun k hk H locs q9 ce hW hS hce hcv hcl => by subst hk; cases (show (none : Option (Int32 × yT)) = some (r, Tr) from zx_l h)) (fun r7 hk H locs hW hS => ?_)
  subst hk
  have h := zx_r h
  refine W.widen (k := c0 + 59) (n := 8 * (c0 + 59)) (by omega) (by omega) ?_
  refine lv_istore (lv' := [(12, .int r7), (10, .long q1), (0, .ref x0), (1, .int w1), (2, .int w2), (4, .int w4), (5, .long w5), (7, .int w7), (8, .int w8)]) hx hb dL_mends_227 hl (by decide) rfl (fun ls hl => ?_)
  refine lv_iload hx hb dL_mends_229 (lv_at hl 5 rfl) ?_
  refine lv_if_eq (tgt := 268) hx hb dL_mends_231 (by decide) (fun c8 => ?_) (fun c8 => ?_)
  · have h := zip c8 h
    exact t_L_mends_268 C0 N hN (c0 := c0 + 59)  (by omega) h hW hS (lv_sub hl [2, 3, 4, 6, 8, 1, 0] rfl)
  · have h := zin c8 h
    refine lv_aload_n hx hb dL_mends_234 rfl (lv_at hl 2 rfl) ?_
    obtain ⟨q9, T11, e10, h⟩ := zbp_some h
    refine y_xcalli hS (vx_runV (As := []) (rest := []) ⟨hx, hb, hml, hown, hts⟩ (n_X6_steps l hlt N hN e10) (cwV 0 hts (gM_X6_steps wsM_up) rfl rfl rfl (by decide +kernel) ⟨Nat.le_of_ble_eq_true rfl, Nat.le_of_ble_eq_true rfl⟩) (y_preV hK hE hlo hW hS []) rfl rfl hl.1 rfl (lv_room (Nat.le_of_ble_eq_true rfl)) dL_mends_235 ⟨by show c0 + 59 + 0 ≤ 2689; omega, by show 8 * (c0 + 59) + 0 ≤ 21512; omega⟩) (fun k hk H locs q9 ce hW hS hce hcv hcl => by subst hk; cases (show (none : Option (Int32 × yT)) = some (r, Tr) from zx_l h)) (fun r12 hk H locs hW hS => ?_)
    subst hk
    have h := zx_r h
    refine lv_iload hx hb dL_mends_238 (lv_at hl 7 rfl) ?_
    refine lv_iload hx hb dL_mends_240 (lv_at hl 8 rfl) ?_
    refine lv_iadd hx hb dL_mends_242 ?_
    refine lv_iconst (v := 1) hx hb dL_mends_243 (by decide) ?_
    refine lv_isub hx hb dL_mends_244 ?_
    refine lv_icmp_ne (tgt := 268) hx hb dL_mends_245 (by decide) (fun c13 => ?_) (fun c13 => ?_)
    · have h := zin c13 h
      exact t_L_mends_268 C0 N hN (c0 := c0 + 59)  (by omega) h hW hS (lv_sub hl [2, 3, 4, 6, 8, 1, 0] rfl)
    · have h := zip c13 h
      refine lv_iload hx hb dL_mends_248 (lv_at hl 0 rfl) ?_
      refine lv_iload hx hb dL_mends_250 (lv_at hl 8 rfl) ?_
      refine lv_iconst (v := 1) hx hb dL_mends_252 (by decide) ?_
      refine lv_isub hx hb dL_mends_253 ?_
      refine lv_icmp_lt (tgt := 268) hx hb dL_mends_254 (by decide) (fun c14 => ?_) (fun c14 => ?_)
      · have h := zip c14 h
        exact t_L_mends_268 C0 N hN (c0 := c0 + 59)  (by omega) h hW hS (lv_sub hl [2, 3, 4, 6, 8, 1, 0] rfl)
      · have h := zin c14 h
        refine lv_iload hx hb dL_mends_257 (lv_at hl 0 rfl) ?_
        refine lv_bipush (v := 20) hx hb dL_mends_259 (by decide) ?_
        refine lv_icmp_ge (tgt := 268) hx hb dL_mends_261 (by decide) (fun c15 => ?_) (fun c15 => ?_)
        · have h := zip c15 h
          exact t_L_mends_268 C0 N hN (c0 := c0 + 59)  (by omega) h hW hS (lv_sub hl [2, 3, 4, 6, 8, 1, 0] rfl)
        · have h := zin c15 h
          refine lv_iconst (v := 1) hx hb dL_mends_264 (by decide) ?_
          refine lv_goto (tgt := 269) hx hb dL_mends_265 (by decide) ?_
          exact t_L_mends_269 C0 N hN (c0 := c0 + 59)  (by omega) h hW hS (lv_sub hl [2, 3, 4, 6, 8, 1, 0] rfl)
noncomputable def f_L_mends_209 (N : Nat) (kh150 : Int32 → Int32 → Int32 → Int32 → Int64 → Int32 → Int32 → Int32 → Int32 → yT → Option (Int32 × yT)) (w1 : Int32) (w2 : Int32) (w3 : Int32) (w5 : Int64) (w7 : Int32) (w8 : Int32) (w9 : Int32) (w10 : Int32) (s0 : Int32) (T : yT) : Option (Int32 × yT) :=
kh150 w1 w2 w3 s0 w5 w7 w8 w9 (w10 + 1) T
set_option maxRecDepth 100000 in
set_option maxHeartbeats 8000000 in
theorem t_L_mends_209 {p : Program} {l : Launch} {e : Env} {s : State} {m : MethodId} {args : Array Value} {below : List Frame} {meth : Method} {c : Code} {D : va_G} {cy : Nat → ClassId} {x0 lo : Nat} (C0 : yCx p l s m c meth args cL_mends 14 wsM_mends RL (some .boolean) D cy lo) (N : Nat) (hN : 10000000 ≤ N) {kh150 : Int32 → Int32 → Int32 → Int32 → Int64 → Int32 → Int32 → Int32 → Int32 → yT → Option (Int32 × yT)} {ch150 : Nat} {c0 : Nat} {w1 : Int32} {w2 : Int32} {w3 : Int32} {w5 : Int64} {w7 : Int32} {w8 : Int32} {w9 : Int32} {w10 : Int32} {s0 : Int32} {T : yT} {r : Int32} {Tr : yT} (hm150 : ch150 ≤ 2689) (hk150 : ∀ {y1 : Int32} {y2 : Int32} {y3 : Int32} {y4 : Int32} {y5 : Int64} {y7 : Int32} {y8 : Int32} {y9 : Int32} {y10 : Int32} {T : yT}, kh150 y1 y2 y3 y4 y5 y7 y8 y9 y10 T = some (r, Tr) → ∀ {H : Heap} {locs : List Loc} {ls : Array Slot}, yWd D cy x0 lo T H → va_S (yA lo) s.heap H locs → lv_has ls 14 [(0, .ref x0), (1, .int y1), (2, .int y2), (3, .int y3), (4, .int y4), (5, .long y5), (7, .int y7), (8, .int y8), (9, .int y9), (10, .int y10)] → W p l e (headSpec wsM_mends ({ frames := 19, cells := 2689, slots := 21512, locals := 494 } : Room)).room s m args below meth c H locs (ch150) (8 * (ch150)) (MQ below (yQi D cy x0 lo r Tr) args s 2689 21512 (yA lo)) (F0 m 150 ls [])) (hc : c0 + 0 ≤ 2689) (he150 : c0 + 0 ≤ ch150) (h : f_L_mends_209 N kh150 w1 w2 w3 w5 w7 w8 w9 w10 s0 T = some (r, Tr)) {H : Heap} {locs : List Loc} {ls : Array Slot} (hW : yWd D cy x0 lo T H) (hS : va_S (yA lo) s.heap H locs) (hl : lv_has ls 14 [(0, .ref x0), (1, .int w1), (2, .int w2), (3, .int w3), (5, .long w5), (7, .int w7), (8, .int w8), (9, .int w9), (10, .int w10)]) : W p l e (headSpec wsM_mends ({ frames := 19, cells := 2689, slots := 21512, locals := 494 } : Room)).room s m args below meth c H locs (c0) (8 * (c0)) (MQ below (yQi D cy x0 lo r Tr) args s 2689 21512 (yA lo)) (F0 m 209 ls [.int s0]) := by
  obtain ⟨hx, hb, hr, hml, hown, hts, hlocks, hK, hE, hlo, hlt⟩ := id C0
  unfold f_L_mends_209 at h
  refine lv_istore (lv' := [(4, .int s0), (0, .ref x0), (1, .int w1), (2, .int w2), (3, .int w3), (5, .long w5), (7, .int w7), (8, .int w8), (9, .int w9), (10, .int w10)]) hx hb dL_mends_209 hl (by decide) rfl (fun ls hl => ?_)
  refine lv_iinc (k := 9) (v := (w10 + 1)) (lv' := [(10, .int (w10 + 1)), (4, .int s0), (0, .ref x0), (1, .int w1), (2, .int w2), (3, .int w3), (5, .long w5), (7, .int w7), (8, .int w8), (9, .int w9)]) hx hb dL_mends_211 hl rfl (by rw [show Int32.ofInt 1 = (1 : Int32) from by decide]) (by decide) rfl (fun ls hl => ?_)
  refine lv_goto (tgt := 150) hx hb dL_mends_214 (by decide) ?_
  refine W.widen (k := ch150) (n := 8 * ch150) (by omega) (by omega) ?_
  exact hk150 h hW hS (lv_sub hl [2, 3, 4, 5, 1, 6, 7, 8, 9, 0] rfl)
noncomputable def f_L_mends_208 (N : Nat) (kh150 : Int32 → Int32 → Int32 → Int32 → Int64 → Int32 → Int32 → Int32 → Int32 → yT → Option (Int32 × yT)) (w1 : Int32) (w2 : Int32) (w3 : Int32) (w5 : Int64) (w7 : Int32) (w8 : Int32) (w9 : Int32) (w10 : Int32) (T : yT) : Option (Int32 × yT) :=
f_L_mends_209 N kh150 w1 w2 w3 w5 w7 w8 w9 w10 (0 : Int32) T
set_option maxRecDepth 100000 in
set_option maxHeartbeats 8000000 in
theorem t_L_mends_208 {p : Program} {l : Launch} {e : Env} {s : State} {m : MethodId} {args : Array Value} {below : List Frame} {meth : Method} {c : Code} {D : va_G} {cy : Nat → ClassId} {x0 lo : Nat} (C0 : yCx p l s m c meth args cL_mends 14 wsM_mends RL (some .boolean) D cy lo) (N : Nat) (hN : 10000000 ≤ N) {kh150 : Int32 → Int32 → Int32 → Int32 → Int64 → Int32 → Int32 → Int32 → Int32 → yT → Option (Int32 × yT)} {ch150 : Nat} {c0 : Nat} {w1 : Int32} {w2 : Int32} {w3 : Int32} {w5 : Int64} {w7 : Int32} {w8 : Int32} {w9 : Int32} {w10 : Int32} {T : yT} {r : Int32} {Tr : yT} (hm150 : ch150 ≤ 2689) (hk150 : ∀ {y1 : Int32} {y2 : Int32} {y3 : Int32} {y4 : Int32} {y5 : Int64} {y7 : Int32} {y8 : Int32} {y9 : Int32} {y10 : Int32} {T : yT}, kh150 y1 y2 y3 y4 y5 y7 y8 y9 y10 T = some (r, Tr) → ∀ {H : Heap} {locs : List Loc} {ls : Array Slot}, yWd D cy x0 lo T H → va_S (yA lo) s.heap H locs → lv_has ls 14 [(0, .ref x0), (1, .int y1), (2, .int y2), (3, .int y3), (4, .int y4), (5, .long y5), (7, .int y7), (8, .int y8), (9, .int y9), (10, .int y10)] → W p l e (headSpec wsM_mends ({ frames := 19, cells := 2689, slots := 21512, locals := 494 } : Room)).room s m args below meth c H locs (ch150) (8 * (ch150)) (MQ below (yQi D cy x0 lo r Tr) args s 2689 21512 (yA lo)) (F0 m 150 ls [])) (hc : c0 + 0 ≤ 2689) (he150 : c0 + 0 ≤ ch150) (h : f_L_mends_208 N kh150 w1 w2 w3 w5 w7 w8 w9 w10 T = some (r, Tr)) {H : Heap} {locs : List Loc} {ls : Array Slot} (hW : yWd D cy x0 lo T H) (hS : va_S (yA lo) s.heap H locs) (hl : lv_has ls 14 [(0, .ref x0), (1, .int w1), (2, .int w2), (3, .int w3), (5, .long w5), (7, .int w7), (8, .int w8), (9, .int w9), (10, .int w10)]) : W p l e (headSpec wsM_mends ({ frames := 19, cells := 2689, slots := 21512, locals := 494 } : Room)).room s m args below meth c H locs (c0) (8 * (c0)) (MQ below (yQi D cy x0 lo r Tr) args s 2689 21512 (yA lo)) (F0 m 208 ls []) := by
  obtain ⟨hx, hb, hr, hml, hown, hts, hlocks, hK, hE, hlo, hlt⟩ := id C0
  unfold f_L_mends_208 at h
  refine lv_iconst (v := 0) hx hb dL_mends_208 (by decide) ?_
  exact t_L_mends_209 C0 N hN (ch150 := ch150) (c0 := c0) hm150 hk150 (by omega) (by omega) h hW hS (lv_sub hl [0, 1, 2, 3, 4, 5, 6, 7, 8] rfl)
noncomputable def f_L_mends_150 (N : Nat) : Nat → Int32 → Int32 → Int32 → Int32 → Int64 → Int32 → Int32 → Int32 → Int32 → yT → Option (Int32 × yT)
  | 0, _, _, _, _, _, _, _, _, _, _ => none
  | n + 1, w1, w2, w3, w4, w5, w7, w8, w9, w10, T =>
    (if (4 : Int32) ≤ w10 then
    f_L_mends_217 N w1 w2 w4 w5 w7 w8 T
    else
    (if w9 ≤ 0 then
    f_L_mends_217 N w1 w2 w4 w5 w7 w8 T
    else
    (if w4 = 0 then
    f_L_mends_217 N w1 w2 w4 w5 w7 w8 T
    else
    zbp (y_X6_matched T w2) fun q4 T6 => (
    zx q4 (fun _ => none) fun r7 => (
    zbp (y_X6_mend T6 w2) fun q8 T10 => (
    zx q8 (fun _ => none) fun r11 => (
    (if r11 = (w3 - r7) then
    zbp (y_X6_steps T10) fun q13 T15 => (
    zx q13 (fun _ => none) fun r16 => (
    (if r16 = (w7 + (w8 + 1)) then
    f_L_mends_209 N (fun y1 y2 y3 y4 y5 y7 y8 y9 y10 T => f_L_mends_150 N n y1 y2 y3 y4 y5 y7 y8 y9 y10 T) w1 w2 w3 w5 w7 (w8 + 1) r11 w10 (1 : Int32) T15
    else
    f_L_mends_208 N (fun y1 y2 y3 y4 y5 y7 y8 y9 y10 T => f_L_mends_150 N n y1 y2 y3 y4 y5 y7 y8 y9 y10 T) w1 w2 w3 w5 w7 (w8 + 1) r11 w10 T15)))
    else
    f_L_mends_208 N (fun y1 y2 y3 y4 y5 y7 y8 y9 y10 T => f_L_mends_150 N n y1 y2 y3 y4 y5 y7 y8 y9 y10 T) w1 w2 w3 w5 w7 (w8 + 1) r11 w10 T10))))))))
set_option maxRecDepth 100000 in
set_option maxHeartbeats 8000000 in
theorem t_L_mends_150 {p : Program} {l : Launch} {e : Env} {s : State} {m : MethodId} {args : Array Value} {below : List Frame} {meth : Method} {c : Code} {D : va_G} {cy : Nat → ClassId} {x0 lo : Nat} (C0 : yCx p l s m c meth args cL_mends 14 wsM_mends RL (some .boolean) D cy lo) (N : Nat) (hN : 10000000 ≤ N) {r : Int32} {Tr : yT} : ∀ (n c0 : Nat) {w1 : Int32} {w2 : Int32} {w3 : Int32} {w4 : Int32} {w5 : Int64} {w7 : Int32} {w8 : Int32} {w9 : Int32} {w10 : Int32} {T : yT}, c0 + n * 5 + 1532 ≤ 2689 → f_L_mends_150 N n w1 w2 w3 w4 w5 w7 w8 w9 w10 T = some (r, Tr) → ∀ {H : Heap} {locs : List Loc} {ls : Array Slot}, yWd D cy x0 lo T H → va_S (yA lo) s.heap H locs → lv_has ls 14 [(0, .ref x0), (1, .int w1), (2, .int w2), (3, .int w3), (4, .int w4), (5, .long w5), (7, .int w7), (8, .int w8), (9, .int w9), (10, .int w10)] → W p l e (headSpec wsM_mends ({ frames := 19, cells := 2689, slots := 21512, locals := 494 } : Room)).room s m args below meth c H locs (c0) (8 * (c0)) (MQ below (yQi D cy x0 lo r Tr) args s 2689 21512 (yA lo)) (F0 m 150 ls []) := by
  obtain ⟨hx, hb, hr, hml, hown, hts, hlocks, hK, hE, hlo, hlt⟩ := id C0
  intro n
  induction n with
  | zero =>
    intro c0 w1 w2 w3 w4 w5 w7 w8 w9 w10 T hc h
    cases (show (none : Option (Int32 × yT)) = some (r, Tr) from h)
  | succ n ih =>
    intro c0 w1 w2 w3 w4 w5 w7 w8 w9 w10 T hc h H locs ls hW hS hl
    rw [f_L_mends_150] at h
    refine lv_iload hx hb dL_mends_150 (lv_at hl 9 rfl) ?_
    refine lv_iconst (v := 4) hx hb dL_mends_152 (by decide) ?_
    refine lv_icmp_ge (tgt := 217) hx hb dL_mends_153 (by decide) (fun c1 => ?_) (fun c1 => ?_)
    · have h := zip c1 h
      exact t_L_mends_217 C0 N hN (c0 := c0)  (by omega) h hW hS (lv_sub hl [0, 1, 2, 4, 5, 6, 7] rfl)
    · have h := zin c1 h
      refine lv_iload hx hb dL_mends_156 (lv_at hl 8 rfl) ?_
      refine lv_if_le (tgt := 217) hx hb dL_mends_158 (by decide) (fun c2 => ?_) (fun c2 => ?_)
      · have h := zip c2 h
        exact t_L_mends_217 C0 N hN (c0 := c0)  (by omega) h hW hS (lv_sub hl [0, 1, 2, 4, 5, 6, 7] rfl)
      · have h := zin c2 h
        refine lv_iload hx hb dL_mends_161 (lv_at hl 4 rfl) ?_
        refine lv_if_eq (tgt := 217) hx hb dL_mends_163 (by decide) (fun c3 => ?_) (fun c3 => ?_)
        · have h := zip c3 h
          exact t_L_mends_217 C0 N hN (c0 := c0)  (by omega) h hW hS (lv_sub hl [0, 1, 2, 4, 5, 6, 7] rfl)
        · have h := zin c3 h
          refine lv_aload_n hx hb dL_mends_166 rfl (lv_at hl 0 rfl) ?_
          refine lv_iload_n hx hb dL_mends_167 rfl (lv_at hl 2 rfl) ?_
          obtain ⟨q4, T6, e5, h⟩ := zbp_some h
          refine y_xcalli hS (vx_runV (As := [.int w2]) (rest := []) ⟨hx, hb, hml, hown, hts⟩ (n_X6_matched l hlt N hN e5) (cwV 1 hts (gM_X6_matched wsM_up) rfl rfl rfl (by decide +kernel) ⟨Nat.le_of_ble_eq_true rfl, Nat.le_of_ble_eq_true rfl⟩) (y_preV hK hE hlo hW hS [.int w2]) rfl rfl hl.1 rfl (lv_room (Nat.le_of_ble_eq_true rfl)) dL_mends_168 ⟨by show c0 + 2 ≤ 2689; omega, by show 8 * (c0) + 12 ≤ 21512; omega⟩) (fun k hk H locs q9 ce hW hS hce hcv hcl => by subst hk; cases (show (none : Option (Int32 × yT)) = some (r, Tr) from zx_l h)) (fun r7 hk H locs hW hS => ?_)
          subst hk
          have h := zx_r h
          refine W.widen (k := c0 + 2) (n := 8 * (c0 + 2)) (by omega) (by omega) ?_
          refine lv_istore (lv' := [(11, .int r7), (0, .ref x0), (1, .int w1), (2, .int w2), (3, .int w3), (4, .int w4), (5, .long w5), (7, .int w7), (8, .int w8), (9, .int w9), (10, .int w10)]) hx hb dL_mends_171 hl (by decide) rfl (fun ls hl => ?_)
          refine lv_aload_n hx hb dL_mends_173 rfl (lv_at hl 1 rfl) ?_
          refine lv_iload_n hx hb dL_mends_174 rfl (lv_at hl 3 rfl) ?_
          obtain ⟨q8, T10, e9, h⟩ := zbp_some h
          refine y_xcalli hS (vx_runV (As := [.int w2]) (rest := []) ⟨hx, hb, hml, hown, hts⟩ (n_X6_mend l hlt N hN e9) (cwV 1 hts (gM_X6_mend wsM_up) rfl rfl rfl (by decide +kernel) ⟨Nat.le_of_ble_eq_true rfl, Nat.le_of_ble_eq_true rfl⟩) (y_preV hK hE hlo hW hS [.int w2]) rfl rfl hl.1 rfl (lv_room (Nat.le_of_ble_eq_true rfl)) dL_mends_175 ⟨by show c0 + 2 + 3 ≤ 2689; omega, by show 8 * (c0 + 2) + 18 ≤ 21512; omega⟩) (fun k hk H locs q9 ce hW hS hce hcv hcl => by subst hk; cases (show (none : Option (Int32 × yT)) = some (r, Tr) from zx_l h)) (fun r11 hk H locs hW hS => ?_)
          subst hk
          have h := zx_r h
          refine W.widen (k := c0 + 5) (n := 8 * (c0 + 5)) (by omega) (by omega) ?_
          refine lv_istore (lv' := [(9, .int r11), (11, .int r7), (0, .ref x0), (1, .int w1), (2, .int w2), (3, .int w3), (4, .int w4), (5, .long w5), (7, .int w7), (8, .int w8), (10, .int w10)]) hx hb dL_mends_178 hl (by decide) rfl (fun ls hl => ?_)
          refine lv_iinc (k := 9) (v := (w8 + 1)) (lv' := [(8, .int (w8 + 1)), (9, .int r11), (11, .int r7), (0, .ref x0), (1, .int w1), (2, .int w2), (3, .int w3), (4, .int w4), (5, .long w5), (7, .int w7), (10, .int w10)]) hx hb dL_mends_180 hl rfl (by rw [show Int32.ofInt 1 = (1 : Int32) from by decide]) (by decide) rfl (fun ls hl => ?_)
          refine lv_iload hx hb dL_mends_183 (lv_at hl 1 rfl) ?_
          refine lv_iload_n hx hb dL_mends_185 rfl (lv_at hl 6 rfl) ?_
          refine lv_iload hx hb dL_mends_186 (lv_at hl 2 rfl) ?_
          refine lv_isub hx hb dL_mends_188 ?_
          refine lv_icmp_ne (tgt := 208) hx hb dL_mends_189 (by decide) (fun c12 => ?_) (fun c12 => ?_)
          · have h := zin c12 h
            exact t_L_mends_208 C0 N hN (ch150 := c0 + 5) (c0 := c0 + 5) (by omega) (fun h _ _ _ hW hS hl => ih (c0 + 5) (by omega) h hW hS hl) (by omega) (by omega) h hW hS (lv_sub hl [3, 4, 5, 6, 8, 9, 0, 1, 10] rfl)
          · have h := zip c12 h
            refine lv_aload_n hx hb dL_mends_192 rfl (lv_at hl 3 rfl) ?_
            obtain ⟨q13, T15, e14, h⟩ := zbp_some h
            refine y_xcalli hS (vx_runV (As := []) (rest := []) ⟨hx, hb, hml, hown, hts⟩ (n_X6_steps l hlt N hN e14) (cwV 0 hts (gM_X6_steps wsM_up) rfl rfl rfl (by decide +kernel) ⟨Nat.le_of_ble_eq_true rfl, Nat.le_of_ble_eq_true rfl⟩) (y_preV hK hE hlo hW hS []) rfl rfl hl.1 rfl (lv_room (Nat.le_of_ble_eq_true rfl)) dL_mends_193 ⟨by show c0 + 5 + 0 ≤ 2689; omega, by show 8 * (c0 + 5) + 0 ≤ 21512; omega⟩) (fun k hk H locs q9 ce hW hS hce hcv hcl => by subst hk; cases (show (none : Option (Int32 × yT)) = some (r, Tr) from zx_l h)) (fun r16 hk H locs hW hS => ?_)
            subst hk
            have h := zx_r h
            refine lv_iload hx hb dL_mends_196 (lv_at hl 9 rfl) ?_
            refine lv_iload hx hb dL_mends_198 (lv_at hl 0 rfl) ?_
            refine lv_iadd hx hb dL_mends_200 ?_
            refine lv_icmp_ne (tgt := 208) hx hb dL_mends_201 (by decide) (fun c17 => ?_) (fun c17 => ?_)
            · have h := zin c17 h
              exact t_L_mends_208 C0 N hN (ch150 := c0 + 5) (c0 := c0 + 5) (by omega) (fun h _ _ _ hW hS hl => ih (c0 + 5) (by omega) h hW hS hl) (by omega) (by omega) h hW hS (lv_sub hl [3, 4, 5, 6, 8, 9, 0, 1, 10] rfl)
            · have h := zip c17 h
              refine lv_iconst (v := 1) hx hb dL_mends_204 (by decide) ?_
              refine lv_goto (tgt := 209) hx hb dL_mends_205 (by decide) ?_
              exact t_L_mends_209 C0 N hN (ch150 := c0 + 5) (c0 := c0 + 5) (by omega) (fun h _ _ _ hW hS hl => ih (c0 + 5) (by omega) h hW hS hl) (by omega) (by omega) h hW hS (lv_sub hl [3, 4, 5, 6, 8, 9, 0, 1, 10] rfl)
noncomputable def f_L_mends_140 (N : Nat) (s0 : Int32) (T : yT) : Option (Int32 × yT) :=
zg (zbo s0) (
some (s0, T))
set_option maxRecDepth 100000 in
set_option maxHeartbeats 8000000 in
theorem t_L_mends_140 {p : Program} {l : Launch} {e : Env} {s : State} {m : MethodId} {args : Array Value} {below : List Frame} {meth : Method} {c : Code} {D : va_G} {cy : Nat → ClassId} {x0 lo : Nat} (C0 : yCx p l s m c meth args cL_mends 14 wsM_mends RL (some .boolean) D cy lo) (N : Nat) (hN : 10000000 ≤ N) {c0 : Nat} {s0 : Int32} {T : yT} {r : Int32} {Tr : yT} (hc : c0 + 0 ≤ 2689) (h : f_L_mends_140 N s0 T = some (r, Tr)) {H : Heap} {locs : List Loc} {ls : Array Slot} (hW : yWd D cy x0 lo T H) (hS : va_S (yA lo) s.heap H locs) (hl : lv_has ls 14 []) : W p l e (headSpec wsM_mends ({ frames := 19, cells := 2689, slots := 21512, locals := 494 } : Room)).room s m args below meth c H locs (c0) (8 * (c0)) (MQ below (yQi D cy x0 lo r Tr) args s 2689 21512 (yA lo)) (F0 m 140 ls [.int s0]) := by
  obtain ⟨hx, hb, hr, hml, hown, hts, hlocks, hK, hE, hlo, hlt⟩ := id C0
  unfold f_L_mends_140 at h
  obtain ⟨g1, h⟩ := zg_some h
  exact y_zret hx hb hr hlocks hW hS g1 (congrArg Prod.fst (Option.some.inj h)) (congrArg Prod.snd (Option.some.inj h)) dL_mends_140 (by omega) (by omega)
noncomputable def f_L_mends_139 (N : Nat) (T : yT) : Option (Int32 × yT) :=
f_L_mends_140 N (0 : Int32) T
set_option maxRecDepth 100000 in
set_option maxHeartbeats 8000000 in
theorem t_L_mends_139 {p : Program} {l : Launch} {e : Env} {s : State} {m : MethodId} {args : Array Value} {below : List Frame} {meth : Method} {c : Code} {D : va_G} {cy : Nat → ClassId} {x0 lo : Nat} (C0 : yCx p l s m c meth args cL_mends 14 wsM_mends RL (some .boolean) D cy lo) (N : Nat) (hN : 10000000 ≤ N) {c0 : Nat} {T : yT} {r : Int32} {Tr : yT} (hc : c0 + 0 ≤ 2689) (h : f_L_mends_139 N T = some (r, Tr)) {H : Heap} {locs : List Loc} {ls : Array Slot} (hW : yWd D cy x0 lo T H) (hS : va_S (yA lo) s.heap H locs) (hl : lv_has ls 14 []) : W p l e (headSpec wsM_mends ({ frames := 19, cells := 2689, slots := 21512, locals := 494 } : Room)).room s m args below meth c H locs (c0) (8 * (c0)) (MQ below (yQi D cy x0 lo r Tr) args s 2689 21512 (yA lo)) (F0 m 139 ls []) := by
  obtain ⟨hx, hb, hr, hml, hown, hts, hlocks, hK, hE, hlo, hlt⟩ := id C0
  unfold f_L_mends_139 at h
  refine lv_iconst (v := 0) hx hb dL_mends_139 (by decide) ?_
  exact t_L_mends_140 C0 N hN (c0 := c0)  (by omega) h hW hS (lv_sub hl [] rfl)
noncomputable def f_L_mends_84 (N : Nat) (w1 : Int32) (w2 : Int32) (w3 : Int32) (w4 : Int32) (T : yT) : Option (Int32 × yT) :=
zbp (f_L_all N T) fun q1 T3 => (
zbp (y_X6_steps T3) fun q4 T6 => (
zx q4 (fun _ => none) fun r7 => (
zbp (y_X6_trees T6 w2 (1 : Int32)) fun q8 T10 => (
zx q8 (fun _ => none) fun r11 => (
(if r11 = 0 then
(if w4 = 0 then
f_L_mends_139 N T10
else
zbp (f_L_call N T10 (5 : Int32) w2 (0 : Int32) (0 : Int32) (0 : Int32)) fun q14 T16 => (
(if q14 = (-8003 : Int32) then
zbp (f_L_all N T16) fun q18 T20 => (
(if q18 = q1 then
f_L_mends_140 N (1 : Int32) T20
else
f_L_mends_139 N T20))
else
f_L_mends_139 N T16)))
else
f_L_mends_150 N 6 w1 w2 w3 w4 q1 r7 (0 : Int32) (1 : Int32) (0 : Int32) T10))))))
set_option maxRecDepth 100000 in
set_option maxHeartbeats 8000000 in
theorem t_L_mends_84 {p : Program} {l : Launch} {e : Env} {s : State} {m : MethodId} {args : Array Value} {below : List Frame} {meth : Method} {c : Code} {D : va_G} {cy : Nat → ClassId} {x0 lo : Nat} (C0 : yCx p l s m c meth args cL_mends 14 wsM_mends RL (some .boolean) D cy lo) (N : Nat) (hN : 10000000 ≤ N) {c0 : Nat} {w1 : Int32} {w2 : Int32} {w3 : Int32} {w4 : Int32} {T : yT} {r : Int32} {Tr : yT} (hc : c0 + 2664 ≤ 2689) (h : f_L_mends_84 N w1 w2 w3 w4 T = some (r, Tr)) {H : Heap} {locs : List Loc} {ls : Array Slot} (hW : yWd D cy x0 lo T H) (hS : va_S (yA lo) s.heap H locs) (hl : lv_has ls 14 [(0, .ref x0), (1, .int w1), (2, .int w2), (3, .int w3), (4, .int w4)]) : W p l e (headSpec wsM_mends ({ frames := 19, cells := 2689, slots := 21512, locals := 494 } : Room)).room s m args below meth c H locs (c0) (8 * (c0)) (MQ below (yQi D cy x0 lo r Tr) args s 2689 21512 (yA lo)) (F0 m 84 ls []) := by
  obtain ⟨hx, hb, hr, hml, hown, hts, hlocks, hK, hE, hlo, hlt⟩ := id C0
  unfold f_L_mends_84 at h
  refine lv_aload_n hx hb dL_mends_84 rfl (lv_at hl 0 rfl) ?_
  obtain ⟨q1, T3, e2, h⟩ := zbp_some h
  refine y_calll hS (va_runS (As := [.ref x0]) (rest := []) ⟨hx, hb, hml, hown, hts⟩ (m_L_all l hlt N hN e2) (va_cwS 1 hts (gM_L_all wsM_up) rfl rfl rfl (by decide +kernel) ⟨Nat.le_of_ble_eq_true rfl, Nat.le_of_ble_eq_true rfl⟩) (y_preS hK hE hlo hW hS [.ref x0]) rfl rfl hl.1 rfl (lv_room (Nat.le_of_ble_eq_true rfl)) dL_mends_85 ⟨by show c0 + 1101 ≤ 2689; omega, by show 8 * (c0) + 8808 ≤ 21512; omega⟩) (fun H locs hW hS => ?_)
  refine W.widen (k := c0 + 1101) (n := 8 * (c0 + 1101)) (by omega) (by omega) ?_
  refine lv_lstore (lv' := [(5, .long q1), (0, .ref x0), (1, .int w1), (2, .int w2), (3, .int w3), (4, .int w4)]) hx hb dL_mends_88 hl (by decide) rfl (fun ls hl => ?_)
  refine lv_aload_n hx hb dL_mends_90 rfl (lv_at hl 1 rfl) ?_
  obtain ⟨q4, T6, e5, h⟩ := zbp_some h
  refine y_xcalli hS (vx_runV (As := []) (rest := []) ⟨hx, hb, hml, hown, hts⟩ (n_X6_steps l hlt N hN e5) (cwV 0 hts (gM_X6_steps wsM_up) rfl rfl rfl (by decide +kernel) ⟨Nat.le_of_ble_eq_true rfl, Nat.le_of_ble_eq_true rfl⟩) (y_preV hK hE hlo hW hS []) rfl rfl hl.1 rfl (lv_room (Nat.le_of_ble_eq_true rfl)) dL_mends_91 ⟨by show c0 + 1101 + 0 ≤ 2689; omega, by show 8 * (c0 + 1101) + 0 ≤ 21512; omega⟩) (fun k hk H locs q9 ce hW hS hce hcv hcl => by subst hk; cases (show (none : Option (Int32 × yT)) = some (r, Tr) from zx_l h)) (fun r7 hk H locs hW hS => ?_)
  subst hk
  have h := zx_r h
  refine lv_istore (lv' := [(7, .int r7), (5, .long q1), (0, .ref x0), (1, .int w1), (2, .int w2), (3, .int w3), (4, .int w4)]) hx hb dL_mends_94 hl (by decide) rfl (fun ls hl => ?_)
  refine lv_aload_n hx hb dL_mends_96 rfl (lv_at hl 2 rfl) ?_
  refine lv_iload_n hx hb dL_mends_97 rfl (lv_at hl 4 rfl) ?_
  refine lv_iconst (v := 1) hx hb dL_mends_98 (by decide) ?_
  obtain ⟨q8, T10, e9, h⟩ := zbp_some h
  refine y_xcalli hS (vx_runV (As := [.int w2, .int (1 : Int32)]) (rest := []) ⟨hx, hb, hml, hown, hts⟩ (n_X6_trees l hlt N hN e9) (cwV 2 hts (gM_X6_trees wsM_up) rfl rfl rfl (by decide +kernel) ⟨Nat.le_of_ble_eq_true rfl, Nat.le_of_ble_eq_true rfl⟩) (y_preV hK hE hlo hW hS [.int w2, .int (1 : Int32)]) rfl rfl hl.1 rfl (lv_room (Nat.le_of_ble_eq_true rfl)) dL_mends_99 ⟨by show c0 + 1101 + 1 ≤ 2689; omega, by show 8 * (c0 + 1101) + 6 ≤ 21512; omega⟩) (fun k hk H locs q9 ce hW hS hce hcv hcl => by subst hk; cases (show (none : Option (Int32 × yT)) = some (r, Tr) from zx_l h)) (fun r11 hk H locs hW hS => ?_)
  subst hk
  have h := zx_r h
  refine W.widen (k := c0 + 1102) (n := 8 * (c0 + 1102)) (by omega) (by omega) ?_
  refine lv_if_ne (tgt := 141) hx hb dL_mends_102 (by decide) (fun c12 => ?_) (fun c12 => ?_)
  · have h := zin c12 h
    refine lv_iconst (v := 0) hx hb dL_mends_141 (by decide) ?_
    refine lv_istore (lv' := [(8, .int (0 : Int32)), (7, .int r7), (5, .long q1), (0, .ref x0), (1, .int w1), (2, .int w2), (3, .int w3), (4, .int w4)]) hx hb dL_mends_142 hl (by decide) rfl (fun ls hl => ?_)
    refine lv_iconst (v := 1) hx hb dL_mends_144 (by decide) ?_
    refine lv_istore (lv' := [(9, .int (1 : Int32)), (8, .int (0 : Int32)), (7, .int r7), (5, .long q1), (0, .ref x0), (1, .int w1), (2, .int w2), (3, .int w3), (4, .int w4)]) hx hb dL_mends_145 hl (by decide) rfl (fun ls hl => ?_)
    refine lv_iconst (v := 0) hx hb dL_mends_147 (by decide) ?_
    refine lv_istore (lv' := [(10, .int (0 : Int32)), (9, .int (1 : Int32)), (8, .int (0 : Int32)), (7, .int r7), (5, .long q1), (0, .ref x0), (1, .int w1), (2, .int w2), (3, .int w3), (4, .int w4)]) hx hb dL_mends_148 hl (by decide) rfl (fun ls hl => ?_)
    exact t_L_mends_150 C0 N hN  6 (c0 + 1102) (by omega) h hW hS (lv_sub hl [5, 6, 7, 8, 9, 4, 3, 2, 1, 0] rfl)
  · have h := zip c12 h
    refine lv_iload hx hb dL_mends_105 (lv_at hl 6 rfl) ?_
    refine lv_if_eq (tgt := 139) hx hb dL_mends_107 (by decide) (fun c13 => ?_) (fun c13 => ?_)
    · have h := zip c13 h
      exact t_L_mends_139 C0 N hN (c0 := c0 + 1102)  (by omega) h hW hS (lv_sub hl [] rfl)
    · have h := zin c13 h
      refine lv_aload_n hx hb dL_mends_110 rfl (lv_at hl 2 rfl) ?_
      refine lv_iconst (v := 5) hx hb dL_mends_111 (by decide) ?_
      refine lv_iload_n hx hb dL_mends_112 rfl (lv_at hl 4 rfl) ?_
      refine lv_iconst (v := 0) hx hb dL_mends_113 (by decide) ?_
      refine lv_iconst (v := 0) hx hb dL_mends_114 (by decide) ?_
      refine lv_iconst (v := 0) hx hb dL_mends_115 (by decide) ?_
      obtain ⟨q14, T16, e15, h⟩ := zbp_some h
      refine y_calli hS (vx_runSW (As := [.ref x0, .int (5 : Int32), .int w2, .int (0 : Int32), .int (0 : Int32), .int (0 : Int32)]) (rest := []) ⟨hx, hb, hml, hown, hts⟩ (m_L_call l hlt N hN e15) (vx_cwSW (hh := [(0, 11, 12, 14), (0, 11, 18, 16), (0, 11, 24, 18)]) 6 hts (gM_L_call wsM_up) rfl rfl rfl (by decide +kernel) ⟨Nat.le_of_ble_eq_true rfl, Nat.le_of_ble_eq_true rfl⟩) (y_preS hK hE hlo hW hS [.ref x0, .int (5 : Int32), .int w2, .int (0 : Int32), .int (0 : Int32), .int (0 : Int32)]) rfl rfl hl.1 rfl (lv_room (Nat.le_of_ble_eq_true rfl)) dL_mends_116 ⟨by show c0 + 1102 + 11 ≤ 2689; omega, by show 8 * (c0 + 1102) + 88 ≤ 21512; omega⟩) (fun H locs hW hS => ?_)
      refine W.widen (k := c0 + 1113) (n := 8 * (c0 + 1113)) (by omega) (by omega) ?_
      refine lv_sipush (v := -8003) hx hb dL_mends_119 (by decide) ?_
      refine lv_icmp_ne (tgt := 139) hx hb dL_mends_122 (by decide) (fun c17 => ?_) (fun c17 => ?_)
      · have h := zin c17 h
        exact t_L_mends_139 C0 N hN (c0 := c0 + 1113)  (by omega) h hW hS (lv_sub hl [] rfl)
      · have h := zip c17 h
        refine lv_aload_n hx hb dL_mends_125 rfl (lv_at hl 2 rfl) ?_
        obtain ⟨q18, T20, e19, h⟩ := zbp_some h
        refine y_calll hS (va_runS (As := [.ref x0]) (rest := []) ⟨hx, hb, hml, hown, hts⟩ (m_L_all l hlt N hN e19) (va_cwS 1 hts (gM_L_all wsM_up) rfl rfl rfl (by decide +kernel) ⟨Nat.le_of_ble_eq_true rfl, Nat.le_of_ble_eq_true rfl⟩) (y_preS hK hE hlo hW hS [.ref x0]) rfl rfl hl.1 rfl (lv_room (Nat.le_of_ble_eq_true rfl)) dL_mends_126 ⟨by show c0 + 1113 + 1101 ≤ 2689; omega, by show 8 * (c0 + 1113) + 8808 ≤ 21512; omega⟩) (fun H locs hW hS => ?_)
        refine W.widen (k := c0 + 2214) (n := 8 * (c0 + 2214)) (by omega) (by omega) ?_
        refine lv_lload hx hb dL_mends_129 (lv_at hl 1 rfl) ?_
        refine z_lc_ne (tgt := 139) hx hb dL_mends_131 dL_mends_132 (by decide) (fun c21 => ?_) (fun c21 => ?_)
        · have h := zin c21 h
          exact t_L_mends_139 C0 N hN (c0 := c0 + 2214)  (by omega) h hW hS (lv_sub hl [] rfl)
        · have h := zip c21 h
          refine lv_iconst (v := 1) hx hb dL_mends_135 (by decide) ?_
          refine lv_goto (tgt := 140) hx hb dL_mends_136 (by decide) ?_
          exact t_L_mends_140 C0 N hN (c0 := c0 + 2214)  (by omega) h hW hS (lv_sub hl [] rfl)
noncomputable def f_L_mends_76 (N : Nat) (kh21 : Int32 → Int32 → Int32 → Int32 → Int32 → yT → Option (Int32 × yT)) (w1 : Int32) (w2 : Int32) (w3 : Int32) (w5 : Int32) (s0 : Int32) (T : yT) : Option (Int32 × yT) :=
kh21 w1 w2 w3 s0 (w5 + 1) T
set_option maxRecDepth 100000 in
set_option maxHeartbeats 8000000 in
theorem t_L_mends_76 {p : Program} {l : Launch} {e : Env} {s : State} {m : MethodId} {args : Array Value} {below : List Frame} {meth : Method} {c : Code} {D : va_G} {cy : Nat → ClassId} {x0 lo : Nat} (C0 : yCx p l s m c meth args cL_mends 14 wsM_mends RL (some .boolean) D cy lo) (N : Nat) (hN : 10000000 ≤ N) {kh21 : Int32 → Int32 → Int32 → Int32 → Int32 → yT → Option (Int32 × yT)} {ch21 : Nat} {c0 : Nat} {w1 : Int32} {w2 : Int32} {w3 : Int32} {w5 : Int32} {s0 : Int32} {T : yT} {r : Int32} {Tr : yT} (hm21 : ch21 ≤ 2689) (hk21 : ∀ {y1 : Int32} {y2 : Int32} {y3 : Int32} {y4 : Int32} {y5 : Int32} {T : yT}, kh21 y1 y2 y3 y4 y5 T = some (r, Tr) → ∀ {H : Heap} {locs : List Loc} {ls : Array Slot}, yWd D cy x0 lo T H → va_S (yA lo) s.heap H locs → lv_has ls 14 [(0, .ref x0), (1, .int y1), (2, .int y2), (3, .int y3), (4, .int y4), (5, .int y5)] → W p l e (headSpec wsM_mends ({ frames := 19, cells := 2689, slots := 21512, locals := 494 } : Room)).room s m args below meth c H locs (ch21) (8 * (ch21)) (MQ below (yQi D cy x0 lo r Tr) args s 2689 21512 (yA lo)) (F0 m 21 ls [])) (hc : c0 + 0 ≤ 2689) (he21 : c0 + 0 ≤ ch21) (h : f_L_mends_76 N kh21 w1 w2 w3 w5 s0 T = some (r, Tr)) {H : Heap} {locs : List Loc} {ls : Array Slot} (hW : yWd D cy x0 lo T H) (hS : va_S (yA lo) s.heap H locs) (hl : lv_has ls 14 [(0, .ref x0), (1, .int w1), (2, .int w2), (3, .int w3), (5, .int w5)]) : W p l e (headSpec wsM_mends ({ frames := 19, cells := 2689, slots := 21512, locals := 494 } : Room)).room s m args below meth c H locs (c0) (8 * (c0)) (MQ below (yQi D cy x0 lo r Tr) args s 2689 21512 (yA lo)) (F0 m 76 ls [.int s0]) := by
  obtain ⟨hx, hb, hr, hml, hown, hts, hlocks, hK, hE, hlo, hlt⟩ := id C0
  unfold f_L_mends_76 at h
  refine lv_istore (lv' := [(4, .int s0), (0, .ref x0), (1, .int w1), (2, .int w2), (3, .int w3), (5, .int w5)]) hx hb dL_mends_76 hl (by decide) rfl (fun ls hl => ?_)
  refine lv_iinc (k := 5) (v := (w5 + 1)) (lv' := [(5, .int (w5 + 1)), (4, .int s0), (0, .ref x0), (1, .int w1), (2, .int w2), (3, .int w3)]) hx hb dL_mends_78 hl rfl (by rw [show Int32.ofInt 1 = (1 : Int32) from by decide]) (by decide) rfl (fun ls hl => ?_)
  refine lv_goto (tgt := 21) hx hb dL_mends_81 (by decide) ?_
  refine W.widen (k := ch21) (n := 8 * ch21) (by omega) (by omega) ?_
  exact hk21 h hW hS (lv_sub hl [2, 3, 4, 5, 1, 0] rfl)
noncomputable def f_L_mends_75 (N : Nat) (kh21 : Int32 → Int32 → Int32 → Int32 → Int32 → yT → Option (Int32 × yT)) (w1 : Int32) (w2 : Int32) (w3 : Int32) (w5 : Int32) (T : yT) : Option (Int32 × yT) :=
f_L_mends_76 N kh21 w1 w2 w3 w5 (0 : Int32) T
set_option maxRecDepth 100000 in
set_option maxHeartbeats 8000000 in
theorem t_L_mends_75 {p : Program} {l : Launch} {e : Env} {s : State} {m : MethodId} {args : Array Value} {below : List Frame} {meth : Method} {c : Code} {D : va_G} {cy : Nat → ClassId} {x0 lo : Nat} (C0 : yCx p l s m c meth args cL_mends 14 wsM_mends RL (some .boolean) D cy lo) (N : Nat) (hN : 10000000 ≤ N) {kh21 : Int32 → Int32 → Int32 → Int32 → Int32 → yT → Option (Int32 × yT)} {ch21 : Nat} {c0 : Nat} {w1 : Int32} {w2 : Int32} {w3 : Int32} {w5 : Int32} {T : yT} {r : Int32} {Tr : yT} (hm21 : ch21 ≤ 2689) (hk21 : ∀ {y1 : Int32} {y2 : Int32} {y3 : Int32} {y4 : Int32} {y5 : Int32} {T : yT}, kh21 y1 y2 y3 y4 y5 T = some (r, Tr) → ∀ {H : Heap} {locs : List Loc} {ls : Array Slot}, yWd D cy x0 lo T H → va_S (yA lo) s.heap H locs → lv_has ls 14 [(0, .ref x0), (1, .int y1), (2, .int y2), (3, .int y3), (4, .int y4), (5, .int y5)] → W p l e (headSpec wsM_mends ({ frames := 19, cells := 2689, slots := 21512, locals := 494 } : Room)).room s m args below meth c H locs (ch21) (8 * (ch21)) (MQ below (yQi D cy x0 lo r Tr) args s 2689 21512 (yA lo)) (F0 m 21 ls [])) (hc : c0 + 0 ≤ 2689) (he21 : c0 + 0 ≤ ch21) (h : f_L_mends_75 N kh21 w1 w2 w3 w5 T = some (r, Tr)) {H : Heap} {locs : List Loc} {ls : Array Slot} (hW : yWd D cy x0 lo T H) (hS : va_S (yA lo) s.heap H locs) (hl : lv_has ls 14 [(0, .ref x0), (1, .int w1), (2, .int w2), (3, .int w3), (5, .int w5)]) : W p l e (headSpec wsM_mends ({ frames := 19, cells := 2689, slots := 21512, locals := 494 } : Room)).room s m args below meth c H locs (c0) (8 * (c0)) (MQ below (yQi D cy x0 lo r Tr) args s 2689 21512 (yA lo)) (F0 m 75 ls []) := by
  obtain ⟨hx, hb, hr, hml, hown, hts, hlocks, hK, hE, hlo, hlt⟩ := id C0
  unfold f_L_mends_75 at h
  refine lv_iconst (v := 0) hx hb dL_mends_75 (by decide) ?_
  exact t_L_mends_76 C0 N hN (ch21 := ch21) (c0 := c0) hm21 hk21 (by omega) (by omega) h hW hS (lv_sub hl [0, 1, 2, 3, 4] rfl)
noncomputable def f_L_mends_21 (N : Nat) : Nat → Int32 → Int32 → Int32 → Int32 → Int32 → yT → Option (Int32 × yT)
  | 0, _, _, _, _, _, _ => none
  | n + 1, w1, w2, w3, w4, w5, T =>
    (if w3 < w5 then
    f_L_mends_84 N w1 w2 w3 w4 T
    else
    (if w4 = 0 then
    f_L_mends_84 N w1 w2 w3 w4 T
    else
    (f_L_some N (w1 >>> (((2 : Int32) * w5) &&& 31)) w5).bind fun q3 => (
    zbp (y_X6_correct T w2 q3 w5) fun q5 T7 => (
    zx q5 (fun _ => none) fun r8 => (
    (if r8 < (-1 : Int32) then
    f_L_mends_75 N (fun y1 y2 y3 y4 y5 T => f_L_mends_21 N n y1 y2 y3 y4 y5 T) w1 w2 w3 w5 T7
    else
    (if w3 < r8 then
    f_L_mends_75 N (fun y1 y2 y3 y4 y5 T => f_L_mends_21 N n y1 y2 y3 y4 y5 T) w1 w2 w3 w5 T7
    else
    (if r8 = w5 then
    f_L_mends_75 N (fun y1 y2 y3 y4 y5 T => f_L_mends_21 N n y1 y2 y3 y4 y5 T) w1 w2 w3 w5 T7
    else
    f_L_mends_76 N (fun y1 y2 y3 y4 y5 T => f_L_mends_21 N n y1 y2 y3 y4 y5 T) w1 w2 w3 w5 (1 : Int32) T7))))))))
set_option maxRecDepth 100000 in
set_option maxHeartbeats 8000000 in
theorem t_L_mends_21 {p : Program} {l : Launch} {e : Env} {s : State} {m : MethodId} {args : Array Value} {below : List Frame} {meth : Method} {c : Code} {D : va_G} {cy : Nat → ClassId} {x0 lo : Nat} (C0 : yCx p l s m c meth args cL_mends 14 wsM_mends RL (some .boolean) D cy lo) (N : Nat) (hN : 10000000 ≤ N) {r : Int32} {Tr : yT} : ∀ (n c0 : Nat) {w1 : Int32} {w2 : Int32} {w3 : Int32} {w4 : Int32} {w5 : Int32} {T : yT}, c0 + n * 3 + 2664 ≤ 2689 → f_L_mends_21 N n w1 w2 w3 w4 w5 T = some (r, Tr) → ∀ {H : Heap} {locs : List Loc} {ls : Array Slot}, yWd D cy x0 lo T H → va_S (yA lo) s.heap H locs → lv_has ls 14 [(0, .ref x0), (1, .int w1), (2, .int w2), (3, .int w3), (4, .int w4), (5, .int w5)] → W p l e (headSpec wsM_mends ({ frames := 19, cells := 2689, slots := 21512, locals := 494 } : Room)).room s m args below meth c H locs (c0) (8 * (c0)) (MQ below (yQi D cy x0 lo r Tr) args s 2689 21512 (yA lo)) (F0 m 21 ls []) := by
  obtain ⟨hx, hb, hr, hml, hown, hts, hlocks, hK, hE, hlo, hlt⟩ := id C0
  intro n
  induction n with
  | zero =>
    intro c0 w1 w2 w3 w4 w5 T hc h
    cases (show (none : Option (Int32 × yT)) = some (r, Tr) from h)
  | succ n ih =>
    intro c0 w1 w2 w3 w4 w5 T hc h H locs ls hW hS hl
    rw [f_L_mends_21] at h
    refine lv_iload hx hb dL_mends_21 (lv_at hl 5 rfl) ?_
    refine lv_iload_n hx hb dL_mends_23 rfl (lv_at hl 3 rfl) ?_
    refine lv_icmp_gt (tgt := 84) hx hb dL_mends_24 (by decide) (fun c1 => ?_) (fun c1 => ?_)
    · have h := zip c1 h
      exact t_L_mends_84 C0 N hN (c0 := c0)  (by omega) h hW hS (lv_sub hl [0, 1, 2, 3, 4] rfl)
    · have h := zin c1 h
      refine lv_iload hx hb dL_mends_27 (lv_at hl 4 rfl) ?_
      refine lv_if_eq (tgt := 84) hx hb dL_mends_29 (by decide) (fun c2 => ?_) (fun c2 => ?_)
      · have h := zip c2 h
        exact t_L_mends_84 C0 N hN (c0 := c0)  (by omega) h hW hS (lv_sub hl [0, 1, 2, 3, 4] rfl)
      · have h := zin c2 h
        refine lv_aload_n hx hb dL_mends_32 rfl (lv_at hl 0 rfl) ?_
        refine lv_iload_n hx hb dL_mends_33 rfl (lv_at hl 2 rfl) ?_
        refine lv_iload_n hx hb dL_mends_34 rfl (lv_at hl 1 rfl) ?_
        refine lv_iconst (v := 2) hx hb dL_mends_35 (by decide) ?_
        refine lv_iload hx hb dL_mends_36 (lv_at hl 5 rfl) ?_
        refine lv_imul hx hb dL_mends_38 ?_
        refine lv_ishr hx hb dL_mends_39 ?_
        refine lv_iload hx hb dL_mends_40 (lv_at hl 5 rfl) ?_
        obtain ⟨q3, e4, h⟩ := zb_some h
        refine y_calli hS (va_runS (As := [.int (w1 >>> (((2 : Int32) * w5) &&& 31)), .int w5]) (rest := [.int w2, .ref x0]) ⟨hx, hb, hml, hown, hts⟩ (m_L_some l hlt N hN (T := T) e4) (va_cwS 2 hts (gM_L_some wsM_up) rfl rfl rfl (by decide +kernel) ⟨Nat.le_of_ble_eq_true rfl, Nat.le_of_ble_eq_true rfl⟩) (y_preS hK hE hlo hW hS [.int (w1 >>> (((2 : Int32) * w5) &&& 31)), .int w5]) rfl rfl hl.1 rfl (lv_room (Nat.le_of_ble_eq_true rfl)) dL_mends_42 ⟨by show c0 + 0 ≤ 2689; omega, by show 8 * (c0) + 0 ≤ 21512; omega⟩) (fun H locs hW hS => ?_)
        refine lv_iload hx hb dL_mends_45 (lv_at hl 5 rfl) ?_
        obtain ⟨q5, T7, e6, h⟩ := zbp_some h
        refine y_xcalli hS (vx_runV (As := [.int w2, .int q3, .int w5]) (rest := []) ⟨hx, hb, hml, hown, hts⟩ (n_X6_correct l hlt N hN e6) (cwV 3 hts (gM_X6_correct wsM_up) rfl rfl rfl (by decide +kernel) ⟨Nat.le_of_ble_eq_true rfl, Nat.le_of_ble_eq_true rfl⟩) (y_preV hK hE hlo hW hS [.int w2, .int q3, .int w5]) rfl rfl hl.1 rfl (lv_room (Nat.le_of_ble_eq_true rfl)) dL_mends_47 ⟨by show c0 + 3 ≤ 2689; omega, by show 8 * (c0) + 18 ≤ 21512; omega⟩) (fun k hk H locs q9 ce hW hS hce hcv hcl => by subst hk; cases (show (none : Option (Int32 × yT)) = some (r, Tr) from zx_l h)) (fun r8 hk H locs hW hS => ?_)
        subst hk
        have h := zx_r h
        refine W.widen (k := c0 + 3) (n := 8 * (c0 + 3)) (by omega) (by omega) ?_
        refine lv_istore (lv' := [(6, .int r8), (0, .ref x0), (1, .int w1), (2, .int w2), (3, .int w3), (4, .int w4), (5, .int w5)]) hx hb dL_mends_50 hl (by decide) rfl (fun ls hl => ?_)
        refine lv_iload hx hb dL_mends_52 (lv_at hl 0 rfl) ?_
        refine lv_iconst (v := -1) hx hb dL_mends_54 (by decide) ?_
        refine lv_icmp_lt (tgt := 75) hx hb dL_mends_55 (by decide) (fun c9 => ?_) (fun c9 => ?_)
        · have h := zip c9 h
          exact t_L_mends_75 C0 N hN (ch21 := c0 + 3) (c0 := c0 + 3) (by omega) (fun h _ _ _ hW hS hl => ih (c0 + 3) (by omega) h hW hS hl) (by omega) (by omega) h hW hS (lv_sub hl [1, 2, 3, 4, 6] rfl)
        · have h := zin c9 h
          refine lv_iload hx hb dL_mends_58 (lv_at hl 0 rfl) ?_
          refine lv_iload_n hx hb dL_mends_60 rfl (lv_at hl 4 rfl) ?_
          refine lv_icmp_gt (tgt := 75) hx hb dL_mends_61 (by decide) (fun c10 => ?_) (fun c10 => ?_)
          · have h := zip c10 h
            exact t_L_mends_75 C0 N hN (ch21 := c0 + 3) (c0 := c0 + 3) (by omega) (fun h _ _ _ hW hS hl => ih (c0 + 3) (by omega) h hW hS hl) (by omega) (by omega) h hW hS (lv_sub hl [1, 2, 3, 4, 6] rfl)
          · have h := zin c10 h
            refine lv_iload hx hb dL_mends_64 (lv_at hl 0 rfl) ?_
            refine lv_iload hx hb dL_mends_66 (lv_at hl 6 rfl) ?_
            refine lv_icmp_eq (tgt := 75) hx hb dL_mends_68 (by decide) (fun c11 => ?_) (fun c11 => ?_)
            · have h := zip c11 h
              exact t_L_mends_75 C0 N hN (ch21 := c0 + 3) (c0 := c0 + 3) (by omega) (fun h _ _ _ hW hS hl => ih (c0 + 3) (by omega) h hW hS hl) (by omega) (by omega) h hW hS (lv_sub hl [1, 2, 3, 4, 6] rfl)
            · have h := zin c11 h
              refine lv_iconst (v := 1) hx hb dL_mends_71 (by decide) ?_
              refine lv_goto (tgt := 76) hx hb dL_mends_72 (by decide) ?_
              exact t_L_mends_76 C0 N hN (ch21 := c0 + 3) (c0 := c0 + 3) (by omega) (fun h _ _ _ hW hS hl => ih (c0 + 3) (by omega) h hW hS hl) (by omega) (by omega) h hW hS (lv_sub hl [1, 2, 3, 4, 6] rfl)
noncomputable def f_L_mends_0 (N : Nat) (w1 : Int32) (T : yT) : Option (Int32 × yT) :=
zbp (y_X6_sentences T) fun q1 T3 => (
zx q1 (fun _ => none) fun r4 => (
(f_L_some N w1 r4).bind fun q5 => (
zbp (y_X6_words T3 q5) fun q7 T9 => (
zx q7 (fun _ => none) fun r10 => (
f_L_mends_21 N 8 w1 q5 r10 (1 : Int32) (1 : Int32) T9)))))
set_option maxRecDepth 100000 in
set_option maxHeartbeats 8000000 in
theorem t_L_mends_0 {p : Program} {l : Launch} {e : Env} {s : State} {m : MethodId} {args : Array Value} {below : List Frame} {meth : Method} {c : Code} {D : va_G} {cy : Nat → ClassId} {x0 lo : Nat} (C0 : yCx p l s m c meth args cL_mends 14 wsM_mends RL (some .boolean) D cy lo) (N : Nat) (hN : 10000000 ≤ N) {c0 : Nat} {w1 : Int32} {T : yT} {r : Int32} {Tr : yT} (hc : c0 + 2689 ≤ 2689) (h : f_L_mends_0 N w1 T = some (r, Tr)) {H : Heap} {locs : List Loc} {ls : Array Slot} (hW : yWd D cy x0 lo T H) (hS : va_S (yA lo) s.heap H locs) (hl : lv_has ls 14 [(0, .ref x0), (1, .int w1)]) : W p l e (headSpec wsM_mends ({ frames := 19, cells := 2689, slots := 21512, locals := 494 } : Room)).room s m args below meth c H locs (c0) (8 * (c0)) (MQ below (yQi D cy x0 lo r Tr) args s 2689 21512 (yA lo)) (F0 m 0 ls []) := by
  obtain ⟨hx, hb, hr, hml, hown, hts, hlocks, hK, hE, hlo, hlt⟩ := id C0
  unfold f_L_mends_0 at h
  refine lv_iload_n hx hb dL_mends_0 rfl (lv_at hl 1 rfl) ?_
  refine lv_aload_n hx hb dL_mends_1 rfl (lv_at hl 0 rfl) ?_
  obtain ⟨q1, T3, e2, h⟩ := zbp_some h
  refine y_xcalli hS (vx_runV (As := []) (rest := [.int w1]) ⟨hx, hb, hml, hown, hts⟩ (n_X6_sentences l hlt N hN e2) (cwV 0 hts (gM_X6_sentences wsM_up) rfl rfl rfl (by decide +kernel) ⟨Nat.le_of_ble_eq_true rfl, Nat.le_of_ble_eq_true rfl⟩) (y_preV hK hE hlo hW hS []) rfl rfl hl.1 rfl (lv_room (Nat.le_of_ble_eq_true rfl)) dL_mends_2 ⟨by show c0 + 0 ≤ 2689; omega, by show 8 * (c0) + 0 ≤ 21512; omega⟩) (fun k hk H locs q9 ce hW hS hce hcv hcl => by subst hk; cases (show (none : Option (Int32 × yT)) = some (r, Tr) from zx_l h)) (fun r4 hk H locs hW hS => ?_)
  subst hk
  have h := zx_r h
  obtain ⟨q5, e6, h⟩ := zb_some h
  refine y_calli hS (va_runS (As := [.int w1, .int r4]) (rest := []) ⟨hx, hb, hml, hown, hts⟩ (m_L_some l hlt N hN (T := T3) e6) (va_cwS 2 hts (gM_L_some wsM_up) rfl rfl rfl (by decide +kernel) ⟨Nat.le_of_ble_eq_true rfl, Nat.le_of_ble_eq_true rfl⟩) (y_preS hK hE hlo hW hS [.int w1, .int r4]) rfl rfl hl.1 rfl (lv_room (Nat.le_of_ble_eq_true rfl)) dL_mends_5 ⟨by show c0 + 0 ≤ 2689; omega, by show 8 * (c0) + 0 ≤ 21512; omega⟩) (fun H locs hW hS => ?_)
  refine lv_istore_n (lv' := [(2, .int q5), (0, .ref x0), (1, .int w1)]) hx hb dL_mends_8 rfl hl (by decide) rfl (fun ls hl => ?_)
  refine lv_aload_n hx hb dL_mends_9 rfl (lv_at hl 1 rfl) ?_
  refine lv_iload_n hx hb dL_mends_10 rfl (lv_at hl 0 rfl) ?_
  obtain ⟨q7, T9, e8, h⟩ := zbp_some h
  refine y_xcalli hS (vx_runV (As := [.int q5]) (rest := []) ⟨hx, hb, hml, hown, hts⟩ (n_X6_words l hlt N hN e8) (cwV 1 hts (gM_X6_words wsM_up) rfl rfl rfl (by decide +kernel) ⟨Nat.le_of_ble_eq_true rfl, Nat.le_of_ble_eq_true rfl⟩) (y_preV hK hE hlo hW hS [.int q5]) rfl rfl hl.1 rfl (lv_room (Nat.le_of_ble_eq_true rfl)) dL_mends_11 ⟨by show c0 + 1 ≤ 2689; omega, by show 8 * (c0) + 6 ≤ 21512; omega⟩) (fun k hk H locs q9 ce hW hS hce hcv hcl => by subst hk; cases (show (none : Option (Int32 × yT)) = some (r, Tr) from zx_l h)) (fun r10 hk H locs hW hS => ?_)
  subst hk
  have h := zx_r h
  refine W.widen (k := c0 + 1) (n := 8 * (c0 + 1)) (by omega) (by omega) ?_
  refine lv_istore_n (lv' := [(3, .int r10), (2, .int q5), (0, .ref x0), (1, .int w1)]) hx hb dL_mends_14 rfl hl (by decide) rfl (fun ls hl => ?_)
  refine lv_iconst (v := 1) hx hb dL_mends_15 (by decide) ?_
  refine lv_istore (lv' := [(4, .int (1 : Int32)), (3, .int r10), (2, .int q5), (0, .ref x0), (1, .int w1)]) hx hb dL_mends_16 hl (by decide) rfl (fun ls hl => ?_)
  refine lv_iconst (v := 1) hx hb dL_mends_18 (by decide) ?_
  refine lv_istore (lv' := [(5, .int (1 : Int32)), (4, .int (1 : Int32)), (3, .int r10), (2, .int q5), (0, .ref x0), (1, .int w1)]) hx hb dL_mends_19 hl (by decide) rfl (fun ls hl => ?_)
  exact t_L_mends_21 C0 N hN  8 (c0 + 1) (by omega) h hW hS (lv_sub hl [4, 5, 3, 2, 1, 0] rfl)
noncomputable def f_L_mends (N : Nat) (T : yT) (a1 : Int32) : Option (Int32 × yT) := f_L_mends_0 N a1 T
set_option maxRecDepth 100000 in
set_option maxHeartbeats 8000000 in
theorem m_L_mends (l : Launch) (hlt : l.stackTraces = false) (N : Nat) (hN : 10000000 ≤ N) {D : va_G} {cy : Nat → ClassId} {x0 lo : Nat} {T : yT} {a1 : Int32} {r : Int32} {Tr : yT} (h : f_L_mends N T a1 = some (r, Tr)) : Met l yL_mends wsM_mends ({ frames := 19, cells := 2689, slots := 21512, locals := 494 } : Room) (yPre D cy x0 lo [.ref x0, .int a1] T) (yQi D cy x0 lo r Tr) 2689 21512 (yA lo) :=
  y_entry hlt (av := [.ref x0, .int a1]) (by decide) rfl rfl (Nat.le_of_ble_eq_true rfl) (fun p e s m args below meth c C0 H locs ls hW hS hl => t_L_mends_0 C0 N hN (c0 := 0) (by decide) h hW hS (lv_sub hl [0, 1] rfl))

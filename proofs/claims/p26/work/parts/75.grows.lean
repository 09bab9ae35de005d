/-! grows and weighs (by program: wip/p26/gen/geny.py). -/
noncomputable def f_L_grows_366 (N : Nat) (s0 : Int32) (T : yT) : Option (Int32 × yT) :=
zg (zbo s0) (
some (s0, T))
set_option maxRecDepth 100000 in
set_option maxHeartbeats 8000000 in
theorem t_L_grows_366 {p : Program} {l : Launch} {e : Env} {s : State} {m : MethodId} {args : Array Value} {below : List Frame} {meth : Method} {c : Code} {D : va_G} {cy : Nat → ClassId} {x0 lo : Nat} (C0 : yCx p l s m c meth args cL_grows 9 wsM_grows RL (some .boolean) D cy lo) (N : Nat) (hN : 10000000 ≤ N) {c0 : Nat} {s0 : Int32} {T : yT} {r : Int32} {Tr : yT} (hc : c0 + 0 ≤ 2214) (h : f_L_grows_366 N s0 T = some (r, Tr)) {H : Heap} {locs : List Loc} {ls : Array Slot} (hW : yWd D cy x0 lo T H) (hS : va_S (yA lo) s.heap H locs) (hl : lv_has ls 9 []) : W p l e (headSpec wsM_grows ({ frames := 19, cells := 2214, slots := 17712, locals := 494 } : Room)).room s m args below meth c H locs (c0) (8 * (c0)) (MQ below (yQi D cy x0 lo r Tr) args s 2214 17712 (yA lo)) (F0 m 366 ls [.int s0]) := by
  obtain ⟨hx, hb, hr, hml, hown, hts, hlocks, hK, hE, hlo, hlt⟩ := id C0
  unfold f_L_grows_366 at h
  obtain ⟨g1, h⟩ := zg_some h
  exact y_zret hx hb hr hlocks hW hS g1 (congrArg Prod.fst (Option.some.inj h)) (congrArg Prod.snd (Option.some.inj h)) dL_grows_366 (by omega) (by omega)
noncomputable def f_L_grows_365 (N : Nat) (T : yT) : Option (Int32 × yT) :=
f_L_grows_366 N (0 : Int32) T
set_option maxRecDepth 100000 in
set_option maxHeartbeats 8000000 in
theorem t_L_grows_365 {p : Program} {l : Launch} {e : Env} {s : State} {m : MethodId} {args : Array Value} {below : List Frame} {meth : Method} {c : Code} {D : va_G} {cy : Nat → ClassId} {x0 lo : Nat} (C0 : yCx p l s m c meth args cL_grows 9 wsM_grows RL (some .boolean) D cy lo) (N : Nat) (hN : 10000000 ≤ N) {c0 : Nat} {T : yT} {r : Int32} {Tr : yT} (hc : c0 + 0 ≤ 2214) (h : f_L_grows_365 N T = some (r, Tr)) {H : Heap} {locs : List Loc} {ls : Array Slot} (hW : yWd D cy x0 lo T H) (hS : va_S (yA lo) s.heap H locs) (hl : lv_has ls 9 []) : W p l e (headSpec wsM_grows ({ frames := 19, cells := 2214, slots := 17712, locals := 494 } : Room)).room s m args below meth c H locs (c0) (8 * (c0)) (MQ below (yQi D cy x0 lo r Tr) args s 2214 17712 (yA lo)) (F0 m 365 ls []) := by
  obtain ⟨hx, hb, hr, hml, hown, hts, hlocks, hK, hE, hlo, hlt⟩ := id C0
  unfold f_L_grows_365 at h
  refine lv_iconst (v := 0) hx hb dL_grows_365 (by decide) ?_
  exact t_L_grows_366 C0 N hN (c0 := c0)  (by omega) h hW hS (lv_sub hl [] rfl)
noncomputable def f_L_grows_291 (N : Nat) (s0 : Int32) (T : yT) : Option (Int32 × yT) :=
zg (zbo s0) (
some (s0, T))
set_option maxRecDepth 100000 in
set_option maxHeartbeats 8000000 in
theorem t_L_grows_291 {p : Program} {l : Launch} {e : Env} {s : State} {m : MethodId} {args : Array Value} {below : List Frame} {meth : Method} {c : Code} {D : va_G} {cy : Nat → ClassId} {x0 lo : Nat} (C0 : yCx p l s m c meth args cL_grows 9 wsM_grows RL (some .boolean) D cy lo) (N : Nat) (hN : 10000000 ≤ N) {c0 : Nat} {s0 : Int32} {T : yT} {r : Int32} {Tr : yT} (hc : c0 + 0 ≤ 2214) (h : f_L_grows_291 N s0 T = some (r, Tr)) {H : Heap} {locs : List Loc} {ls : Array Slot} (hW : yWd D cy x0 lo T H) (hS : va_S (yA lo) s.heap H locs) (hl : lv_has ls 9 []) : W p l e (headSpec wsM_grows ({ frames := 19, cells := 2214, slots := 17712, locals := 494 } : Room)).room s m args below meth c H locs (c0) (8 * (c0)) (MQ below (yQi D cy x0 lo r Tr) args s 2214 17712 (yA lo)) (F0 m 291 ls [.int s0]) := by
  obtain ⟨hx, hb, hr, hml, hown, hts, hlocks, hK, hE, hlo, hlt⟩ := id C0
  unfold f_L_grows_291 at h
  obtain ⟨g1, h⟩ := zg_some h
  exact y_zret hx hb hr hlocks hW hS g1 (congrArg Prod.fst (Option.some.inj h)) (congrArg Prod.snd (Option.some.inj h)) dL_grows_291 (by omega) (by omega)
noncomputable def f_L_grows_290 (N : Nat) (T : yT) : Option (Int32 × yT) :=
f_L_grows_291 N (0 : Int32) T
set_option maxRecDepth 100000 in
set_option maxHeartbeats 8000000 in
theorem t_L_grows_290 {p : Program} {l : Launch} {e : Env} {s : State} {m : MethodId} {args : Array Value} {below : List Frame} {meth : Method} {c : Code} {D : va_G} {cy : Nat → ClassId} {x0 lo : Nat} (C0 : yCx p l s m c meth args cL_grows 9 wsM_grows RL (some .boolean) D cy lo) (N : Nat) (hN : 10000000 ≤ N) {c0 : Nat} {T : yT} {r : Int32} {Tr : yT} (hc : c0 + 0 ≤ 2214) (h : f_L_grows_290 N T = some (r, Tr)) {H : Heap} {locs : List Loc} {ls : Array Slot} (hW : yWd D cy x0 lo T H) (hS : va_S (yA lo) s.heap H locs) (hl : lv_has ls 9 []) : W p l e (headSpec wsM_grows ({ frames := 19, cells := 2214, slots := 17712, locals := 494 } : Room)).room s m args below meth c H locs (c0) (8 * (c0)) (MQ below (yQi D cy x0 lo r Tr) args s 2214 17712 (yA lo)) (F0 m 290 ls []) := by
  obtain ⟨hx, hb, hr, hml, hown, hts, hlocks, hK, hE, hlo, hlt⟩ := id C0
  unfold f_L_grows_290 at h
  refine lv_iconst (v := 0) hx hb dL_grows_290 (by decide) ?_
  exact t_L_grows_291 C0 N hN (c0 := c0)  (by omega) h hW hS (lv_sub hl [] rfl)
noncomputable def f_L_grows_274 (N : Nat) (w3 : Int64) (s0 : Int32) (s1 : Int32) (T : yT) : Option (Int32 × yT) :=
(if s1 = s0 then
zbp (f_L_all N T) fun q2 T4 => (
(if q2 = w3 then
f_L_grows_291 N (1 : Int32) T4
else
f_L_grows_290 N T4))
else
f_L_grows_290 N T)
set_option maxRecDepth 100000 in
set_option maxHeartbeats 8000000 in
theorem t_L_grows_274 {p : Program} {l : Launch} {e : Env} {s : State} {m : MethodId} {args : Array Value} {below : List Frame} {meth : Method} {c : Code} {D : va_G} {cy : Nat → ClassId} {x0 lo : Nat} (C0 : yCx p l s m c meth args cL_grows 9 wsM_grows RL (some .boolean) D cy lo) (N : Nat) (hN : 10000000 ≤ N) {c0 : Nat} {w3 : Int64} {s0 : Int32} {s1 : Int32} {T : yT} {r : Int32} {Tr : yT} (hc : c0 + 1101 ≤ 2214) (h : f_L_grows_274 N w3 s0 s1 T = some (r, Tr)) {H : Heap} {locs : List Loc} {ls : Array Slot} (hW : yWd D cy x0 lo T H) (hS : va_S (yA lo) s.heap H locs) (hl : lv_has ls 9 [(0, .ref x0), (3, .long w3)]) : W p l e (headSpec wsM_grows ({ frames := 19, cells := 2214, slots := 17712, locals := 494 } : Room)).room s m args below meth c H locs (c0) (8 * (c0)) (MQ below (yQi D cy x0 lo r Tr) args s 2214 17712 (yA lo)) (F0 m 274 ls [.int s0, .int s1]) := by
  obtain ⟨hx, hb, hr, hml, hown, hts, hlocks, hK, hE, hlo, hlt⟩ := id C0
  unfold f_L_grows_274 at h
  refine lv_icmp_ne (tgt := 290) hx hb dL_grows_274 (by decide) (fun c1 => ?_) (fun c1 => ?_)
  · have h := zin c1 h
    exact t_L_grows_290 C0 N hN (c0 := c0)  (by omega) h hW hS (lv_sub hl [] rfl)
  · have h := zip c1 h
    refine lv_aload_n hx hb dL_grows_277 rfl (lv_at hl 0 rfl) ?_
    obtain ⟨q2, T4, e3, h⟩ := zbp_some h
    refine y_calll hS (va_runS (As := [.ref x0]) (rest := []) ⟨hx, hb, hml, hown, hts⟩ (m_L_all l hlt N hN e3) (va_cwS 1 hts (gM_L_all wsM_up) rfl rfl rfl (by decide +kernel) ⟨Nat.le_of_ble_eq_true rfl, Nat.le_of_ble_eq_true rfl⟩) (y_preS hK hE hlo hW hS [.ref x0]) rfl rfl hl.1 rfl (lv_room (Nat.le_of_ble_eq_true rfl)) dL_grows_278 ⟨by show c0 + 1101 ≤ 2214; omega, by show 8 * (c0) + 8808 ≤ 17712; omega⟩) (fun H locs hW hS => ?_)
    refine W.widen (k := c0 + 1101) (n := 8 * (c0 + 1101)) (by omega) (by omega) ?_
    refine lv_lload_n hx hb dL_grows_281 rfl (lv_at hl 1 rfl) ?_
    refine z_lc_ne (tgt := 290) hx hb dL_grows_282 dL_grows_283 (by decide) (fun c5 => ?_) (fun c5 => ?_)
    · have h := zin c5 h
      exact t_L_grows_290 C0 N hN (c0 := c0 + 1101)  (by omega) h hW hS (lv_sub hl [] rfl)
    · have h := zip c5 h
      refine lv_iconst (v := 1) hx hb dL_grows_286 (by decide) ?_
      refine lv_goto (tgt := 291) hx hb dL_grows_287 (by decide) ?_
      exact t_L_grows_291 C0 N hN (c0 := c0 + 1101)  (by omega) h hW hS (lv_sub hl [] rfl)
noncomputable def f_L_grows_265 (N : Nat) (w3 : Int64) (s0 : Int32) (T : yT) : Option (Int32 × yT) :=
f_L_grows_274 N w3 (-8001 : Int32) s0 T
set_option maxRecDepth 100000 in
set_option maxHeartbeats 8000000 in
theorem t_L_grows_265 {p : Program} {l : Launch} {e : Env} {s : State} {m : MethodId} {args : Array Value} {below : List Frame} {meth : Method} {c : Code} {D : va_G} {cy : Nat → ClassId} {x0 lo : Nat} (C0 : yCx p l s m c meth args cL_grows 9 wsM_grows RL (some .boolean) D cy lo) (N : Nat) (hN : 10000000 ≤ N) {c0 : Nat} {w3 : Int64} {s0 : Int32} {T : yT} {r : Int32} {Tr : yT} (hc : c0 + 1101 ≤ 2214) (h : f_L_grows_265 N w3 s0 T = some (r, Tr)) {H : Heap} {locs : List Loc} {ls : Array Slot} (hW : yWd D cy x0 lo T H) (hS : va_S (yA lo) s.heap H locs) (hl : lv_has ls 9 [(0, .ref x0), (3, .long w3)]) : W p l e (headSpec wsM_grows ({ frames := 19, cells := 2214, slots := 17712, locals := 494 } : Room)).room s m args below meth c H locs (c0) (8 * (c0)) (MQ below (yQi D cy x0 lo r Tr) args s 2214 17712 (yA lo)) (F0 m 265 ls [.int s0]) := by
  obtain ⟨hx, hb, hr, hml, hown, hts, hlocks, hK, hE, hlo, hlt⟩ := id C0
  unfold f_L_grows_265 at h
  refine lv_sipush (v := -8001) hx hb dL_grows_265 (by decide) ?_
  refine lv_goto (tgt := 274) hx hb dL_grows_268 (by decide) ?_
  exact t_L_grows_274 C0 N hN (c0 := c0)  (by omega) h hW hS (lv_sub hl [0, 1] rfl)
noncomputable def f_L_grows_251 (N : Nat) (w3 : Int64) (w5 : Int32) (w6 : Int32) (w8 : Int32) (T : yT) : Option (Int32 × yT) :=
(if w6 < 0 then
f_L_grows_265 N w3 w8 T
else
(if w6 < w5 then
f_L_grows_274 N w3 (-8002 : Int32) w8 T
else
f_L_grows_265 N w3 w8 T))
set_option maxRecDepth 100000 in
set_option maxHeartbeats 8000000 in
theorem t_L_grows_251 {p : Program} {l : Launch} {e : Env} {s : State} {m : MethodId} {args : Array Value} {below : List Frame} {meth : Method} {c : Code} {D : va_G} {cy : Nat → ClassId} {x0 lo : Nat} (C0 : yCx p l s m c meth args cL_grows 9 wsM_grows RL (some .boolean) D cy lo) (N : Nat) (hN : 10000000 ≤ N) {c0 : Nat} {w3 : Int64} {w5 : Int32} {w6 : Int32} {w8 : Int32} {T : yT} {r : Int32} {Tr : yT} (hc : c0 + 1101 ≤ 2214) (h : f_L_grows_251 N w3 w5 w6 w8 T = some (r, Tr)) {H : Heap} {locs : List Loc} {ls : Array Slot} (hW : yWd D cy x0 lo T H) (hS : va_S (yA lo) s.heap H locs) (hl : lv_has ls 9 [(0, .ref x0), (3, .long w3), (5, .int w5), (6, .int w6), (8, .int w8)]) : W p l e (headSpec wsM_grows ({ frames := 19, cells := 2214, slots := 17712, locals := 494 } : Room)).room s m args below meth c H locs (c0) (8 * (c0)) (MQ below (yQi D cy x0 lo r Tr) args s 2214 17712 (yA lo)) (F0 m 251 ls []) := by
  obtain ⟨hx, hb, hr, hml, hown, hts, hlocks, hK, hE, hlo, hlt⟩ := id C0
  unfold f_L_grows_251 at h
  refine lv_iload hx hb dL_grows_251 (lv_at hl 4 rfl) ?_
  refine lv_iload hx hb dL_grows_253 (lv_at hl 3 rfl) ?_
  refine lv_if_lt (tgt := 265) hx hb dL_grows_255 (by decide) (fun c1 => ?_) (fun c1 => ?_)
  · have h := zip c1 h
    exact t_L_grows_265 C0 N hN (c0 := c0)  (by omega) h hW hS (lv_sub hl [0, 1] rfl)
  · have h := zin c1 h
    refine lv_iload hx hb dL_grows_258 (lv_at hl 3 rfl) ?_
    refine lv_iload hx hb dL_grows_260 (lv_at hl 2 rfl) ?_
    refine lv_icmp_lt (tgt := 271) hx hb dL_grows_262 (by decide) (fun c2 => ?_) (fun c2 => ?_)
    · have h := zip c2 h
      refine lv_sipush (v := -8002) hx hb dL_grows_271 (by decide) ?_
      exact t_L_grows_274 C0 N hN (c0 := c0)  (by omega) h hW hS (lv_sub hl [0, 1] rfl)
    · have h := zin c2 h
      exact t_L_grows_265 C0 N hN (c0 := c0)  (by omega) h hW hS (lv_sub hl [0, 1] rfl)
noncomputable def f_L_grows_215 (N : Nat) (w3 : Int64) (w5 : Int32) (w6 : Int32) (w7 : Int32) (T : yT) : Option (Int32 × yT) :=
zbp (f_L_call N T (1 : Int32) w6 w7 (0 : Int32) (0 : Int32)) fun q1 T3 => (
(if w6 < 0 then
f_L_grows_251 N w3 w5 w6 q1 T3
else
(if w5 ≤ w6 then
f_L_grows_251 N w3 w5 w6 q1 T3
else
(if w7 < 0 then
f_L_grows_251 N w3 w5 w6 q1 T3
else
(if w7 ≤ (3 : Int32) then
zbp (y_X6_words T3 w6) fun q8 T10 => (
zx q8 (fun _ => none) fun r11 => (
(if q1 = r11 then
zbp (y_X6_kind T10 w6 q1) fun q13 T15 => (
zx q13 (fun _ => none) fun r16 => (
(if r16 = w7 then
zbp (f_L_call N T15 (17 : Int32) w5 (0 : Int32) (0 : Int32) (0 : Int32)) fun q18 T20 => (
(if q18 = (-8001 : Int32) then
zbp (y_X6_correct T20 w6 (0 : Int32) q1) fun q22 T24 => (
zx q22 (fun _ => none) fun r25 => (
(if r25 = (-1 : Int32) then
zbp (y_X6_correct T24 w6 (q1 - (1 : Int32)) q1) fun q27 T29 => (
zx q27 (fun _ => none) fun r30 => (
(if r30 = 0 then
f_L_grows_366 N (1 : Int32) T29
else
f_L_grows_365 N T29)))
else
f_L_grows_365 N T24)))
else
f_L_grows_365 N T20))
else
f_L_grows_365 N T15)))
else
f_L_grows_365 N T10)))
else
f_L_grows_251 N w3 w5 w6 q1 T3)))))
set_option maxRecDepth 100000 in
set_option maxHeartbeats 8000000 in
theorem t_L_grows_215 {p : Program} {l : Launch} {e : Env} {s : State} {m : MethodId} {args : Array Value} {below : List Frame} {meth : Method} {c : Code} {D : va_G} {cy : Nat → ClassId} {x0 lo : Nat} (C0 : yCx p l s m c meth args cL_grows 9 wsM_grows RL (some .boolean) D cy lo) (N : Nat) (hN : 10000000 ≤ N) {c0 : Nat} {w3 : Int64} {w5 : Int32} {w6 : Int32} {w7 : Int32} {T : yT} {r : Int32} {Tr : yT} (hc : c0 + 1112 ≤ 2214) (h : f_L_grows_215 N w3 w5 w6 w7 T = some (r, Tr)) {H : Heap} {locs : List Loc} {ls : Array Slot} (hW : yWd D cy x0 lo T H) (hS : va_S (yA lo) s.heap H locs) (hl : lv_has ls 9 [(0, .ref x0), (3, .long w3), (5, .int w5), (6, .int w6), (7, .int w7)]) : W p l e (headSpec wsM_grows ({ frames := 19, cells := 2214, slots := 17712, locals := 494 } : Room)).room s m args below meth c H locs (c0) (8 * (c0)) (MQ below (yQi D cy x0 lo r Tr) args s 2214 17712 (yA lo)) (F0 m 215 ls []) := by
  obtain ⟨hx, hb, hr, hml, hown, hts, hlocks, hK, hE, hlo, hlt⟩ := id C0
  unfold f_L_grows_215 at h
  refine lv_aload_n hx hb dL_grows_215 rfl (lv_at hl 0 rfl) ?_
  refine lv_iconst (v := 1) hx hb dL_grows_216 (by decide) ?_
  refine lv_iload hx hb dL_grows_217 (lv_at hl 3 rfl) ?_
  refine lv_iload hx hb dL_grows_219 (lv_at hl 4 rfl) ?_
  refine lv_iconst (v := 0) hx hb dL_grows_221 (by decide) ?_
  refine lv_iconst (v := 0) hx hb dL_grows_222 (by decide) ?_
  obtain ⟨q1, T3, e2, h⟩ := zbp_some h
  refine y_calli hS (vx_runSW (As := [.ref x0, .int (1 : Int32), .int w6, .int w7, .int (0 : Int32), .int (0 : Int32)]) (rest := []) ⟨hx, hb, hml, hown, hts⟩ (m_L_call l hlt N hN e2) (vx_cwSW (hh := [(0, 11, 12, 14), (0, 11, 18, 16), (0, 11, 24, 18)]) 6 hts (gM_L_call wsM_up) rfl rfl rfl (by decide +kernel) ⟨Nat.le_of_ble_eq_true rfl, Nat.le_of_ble_eq_true rfl⟩) (y_preS hK hE hlo hW hS [.ref x0, .int (1 : Int32), .int w6, .int w7, .int (0 : Int32), .int (0 : Int32)]) rfl rfl hl.1 rfl (lv_room (Nat.le_of_ble_eq_true rfl)) dL_grows_223 ⟨by show c0 + 11 ≤ 2214; omega, by show 8 * (c0) + 88 ≤ 17712; omega⟩) (fun H locs hW hS => ?_)
  refine W.widen (k := c0 + 11) (n := 8 * (c0 + 11)) (by omega) (by omega) ?_
  refine lv_istore (lv' := [(8, .int q1), (0, .ref x0), (3, .long w3), (5, .int w5), (6, .int w6), (7, .int w7)]) hx hb dL_grows_226 hl (by decide) rfl (fun ls hl => ?_)
  refine lv_iload hx hb dL_grows_228 (lv_at hl 4 rfl) ?_
  refine lv_if_lt (tgt := 251) hx hb dL_grows_230 (by decide) (fun c4 => ?_) (fun c4 => ?_)
  · have h := zip c4 h
    exact t_L_grows_251 C0 N hN (c0 := c0 + 11)  (by omega) h hW hS (lv_sub hl [1, 2, 3, 4, 0] rfl)
  · have h := zin c4 h
    refine lv_iload hx hb dL_grows_233 (lv_at hl 4 rfl) ?_
    refine lv_iload hx hb dL_grows_235 (lv_at hl 3 rfl) ?_
    refine lv_icmp_ge (tgt := 251) hx hb dL_grows_237 (by decide) (fun c5 => ?_) (fun c5 => ?_)
    · have h := zip c5 h
      exact t_L_grows_251 C0 N hN (c0 := c0 + 11)  (by omega) h hW hS (lv_sub hl [1, 2, 3, 4, 0] rfl)
    · have h := zin c5 h
      refine lv_iload hx hb dL_grows_240 (lv_at hl 5 rfl) ?_
      refine lv_if_lt (tgt := 251) hx hb dL_grows_242 (by decide) (fun c6 => ?_) (fun c6 => ?_)
      · have h := zip c6 h
        exact t_L_grows_251 C0 N hN (c0 := c0 + 11)  (by omega) h hW hS (lv_sub hl [1, 2, 3, 4, 0] rfl)
      · have h := zin c6 h
        refine lv_iload hx hb dL_grows_245 (lv_at hl 5 rfl) ?_
        refine lv_iconst (v := 3) hx hb dL_grows_247 (by decide) ?_
        refine lv_icmp_le (tgt := 292) hx hb dL_grows_248 (by decide) (fun c7 => ?_) (fun c7 => ?_)
        · have h := zip c7 h
          refine lv_iload hx hb dL_grows_292 (lv_at hl 0 rfl) ?_
          refine lv_aload_n hx hb dL_grows_294 rfl (lv_at hl 1 rfl) ?_
          refine lv_iload hx hb dL_grows_295 (lv_at hl 4 rfl) ?_
          obtain ⟨q8, T10, e9, h⟩ := zbp_some h
          refine y_xcalli hS (vx_runV (As := [.int w6]) (rest := [.int q1]) ⟨hx, hb, hml, hown, hts⟩ (n_X6_words l hlt N hN e9) (cwV 1 hts (gM_X6_words wsM_up) rfl rfl rfl (by decide +kernel) ⟨Nat.le_of_ble_eq_true rfl, Nat.le_of_ble_eq_true rfl⟩) (y_preV hK hE hlo hW hS [.int w6]) rfl rfl hl.1 rfl (lv_room (Nat.le_of_ble_eq_true rfl)) dL_grows_297 ⟨by show c0 + 11 + 1 ≤ 2214; omega, by show 8 * (c0 + 11) + 6 ≤ 17712; omega⟩) (fun k hk H locs q9 ce hW hS hce hcv hcl => by subst hk; cases (show (none : Option (Int32 × yT)) = some (r, Tr) from zx_l h)) (fun r11 hk H locs hW hS => ?_)
          subst hk
          have h := zx_r h
          refine W.widen (k := c0 + 12) (n := 8 * (c0 + 12)) (by omega) (by omega) ?_
          refine lv_icmp_ne (tgt := 365) hx hb dL_grows_300 (by decide) (fun c12 => ?_) (fun c12 => ?_)
          · have h := zin c12 h
            exact t_L_grows_365 C0 N hN (c0 := c0 + 12)  (by omega) h hW hS (lv_sub hl [] rfl)
          · have h := zip c12 h
            refine lv_aload_n hx hb dL_grows_303 rfl (lv_at hl 1 rfl) ?_
            refine lv_iload hx hb dL_grows_304 (lv_at hl 4 rfl) ?_
            refine lv_iload hx hb dL_grows_306 (lv_at hl 0 rfl) ?_
            obtain ⟨q13, T15, e14, h⟩ := zbp_some h
            refine y_xcalli hS (vx_runV (As := [.int w6, .int q1]) (rest := []) ⟨hx, hb, hml, hown, hts⟩ (n_X6_kind l hlt N hN e14) (cwV 2 hts (gM_X6_kind wsM_up) rfl rfl rfl (by decide +kernel) ⟨Nat.le_of_ble_eq_true rfl, Nat.le_of_ble_eq_true rfl⟩) (y_preV hK hE hlo hW hS [.int w6, .int q1]) rfl rfl hl.1 rfl (lv_room (Nat.le_of_ble_eq_true rfl)) dL_grows_308 ⟨by show c0 + 12 + 2 ≤ 2214; omega, by show 8 * (c0 + 12) + 12 ≤ 17712; omega⟩) (fun k hk H locs q9 ce hW hS hce hcv hcl => by subst hk; cases (show (none : Option (Int32 × yT)) = some (r, Tr) from zx_l h)) (fun r16 hk H locs hW hS => ?_)
            subst hk
            have h := zx_r h
            refine W.widen (k := c0 + 14) (n := 8 * (c0 + 14)) (by omega) (by omega) ?_
            refine lv_iload hx hb dL_grows_311 (lv_at hl 5 rfl) ?_
            refine lv_icmp_ne (tgt := 365) hx hb dL_grows_313 (by decide) (fun c17 => ?_) (fun c17 => ?_)
            · have h := zin c17 h
              exact t_L_grows_365 C0 N hN (c0 := c0 + 14)  (by omega) h hW hS (lv_sub hl [] rfl)
            · have h := zip c17 h
              refine lv_aload_n hx hb dL_grows_316 rfl (lv_at hl 1 rfl) ?_
              refine lv_bipush (v := 17) hx hb dL_grows_317 (by decide) ?_
              refine lv_iload hx hb dL_grows_319 (lv_at hl 3 rfl) ?_
              refine lv_iconst (v := 0) hx hb dL_grows_321 (by decide) ?_
              refine lv_iconst (v := 0) hx hb dL_grows_322 (by decide) ?_
              refine lv_iconst (v := 0) hx hb dL_grows_323 (by decide) ?_
              obtain ⟨q18, T20, e19, h⟩ := zbp_some h
              refine y_calli hS (vx_runSW (As := [.ref x0, .int (17 : Int32), .int w5, .int (0 : Int32), .int (0 : Int32), .int (0 : Int32)]) (rest := []) ⟨hx, hb, hml, hown, hts⟩ (m_L_call l hlt N hN e19) (vx_cwSW (hh := [(0, 11, 12, 14), (0, 11, 18, 16), (0, 11, 24, 18)]) 6 hts (gM_L_call wsM_up) rfl rfl rfl (by decide +kernel) ⟨Nat.le_of_ble_eq_true rfl, Nat.le_of_ble_eq_true rfl⟩) (y_preS hK hE hlo hW hS [.ref x0, .int (17 : Int32), .int w5, .int (0 : Int32), .int (0 : Int32), .int (0 : Int32)]) rfl rfl hl.1 rfl (lv_room (Nat.le_of_ble_eq_true rfl)) dL_grows_324 ⟨by show c0 + 14 + 11 ≤ 2214; omega, by show 8 * (c0 + 14) + 88 ≤ 17712; omega⟩) (fun H locs hW hS => ?_)
              refine W.widen (k := c0 + 25) (n := 8 * (c0 + 25)) (by omega) (by omega) ?_
              refine lv_sipush (v := -8001) hx hb dL_grows_327 (by decide) ?_
              refine lv_icmp_ne (tgt := 365) hx hb dL_grows_330 (by decide) (fun c21 => ?_) (fun c21 => ?_)
              · have h := zin c21 h
                exact t_L_grows_365 C0 N hN (c0 := c0 + 25)  (by omega) h hW hS (lv_sub hl [] rfl)
              · have h := zip c21 h
                refine lv_aload_n hx hb dL_grows_333 rfl (lv_at hl 1 rfl) ?_
                refine lv_iload hx hb dL_grows_334 (lv_at hl 4 rfl) ?_
                refine lv_iconst (v := 0) hx hb dL_grows_336 (by decide) ?_
                refine lv_iload hx hb dL_grows_337 (lv_at hl 0 rfl) ?_
                obtain ⟨q22, T24, e23, h⟩ := zbp_some h
                refine y_xcalli hS (vx_runV (As := [.int w6, .int (0 : Int32), .int q1]) (rest := []) ⟨hx, hb, hml, hown, hts⟩ (n_X6_correct l hlt N hN e23) (cwV 3 hts (gM_X6_correct wsM_up) rfl rfl rfl (by decide +kernel) ⟨Nat.le_of_ble_eq_true rfl, Nat.le_of_ble_eq_true rfl⟩) (y_preV hK hE hlo hW hS [.int w6, .int (0 : Int32), .int q1]) rfl rfl hl.1 rfl (lv_room (Nat.le_of_ble_eq_true rfl)) dL_grows_339 ⟨by show c0 + 25 + 3 ≤ 2214; omega, by show 8 * (c0 + 25) + 18 ≤ 17712; omega⟩) (fun k hk H locs q9 ce hW hS hce hcv hcl => by subst hk; cases (show (none : Option (Int32 × yT)) = some (r, Tr) from zx_l h)) (fun r25 hk H locs hW hS => ?_)
                subst hk
                have h := zx_r h
                refine W.widen (k := c0 + 28) (n := 8 * (c0 + 28)) (by omega) (by omega) ?_
                refine lv_iconst (v := -1) hx hb dL_grows_342 (by decide) ?_
                refine lv_icmp_ne (tgt := 365) hx hb dL_grows_343 (by decide) (fun c26 => ?_) (fun c26 => ?_)
                · have h := zin c26 h
                  exact t_L_grows_365 C0 N hN (c0 := c0 + 28)  (by omega) h hW hS (lv_sub hl [] rfl)
                · have h := zip c26 h
                  refine lv_aload_n hx hb dL_grows_346 rfl (lv_at hl 1 rfl) ?_
                  refine lv_iload hx hb dL_grows_347 (lv_at hl 4 rfl) ?_
                  refine lv_iload hx hb dL_grows_349 (lv_at hl 0 rfl) ?_
                  refine lv_iconst (v := 1) hx hb dL_grows_351 (by decide) ?_
                  refine lv_isub hx hb dL_grows_352 ?_
                  refine lv_iload hx hb dL_grows_353 (lv_at hl 0 rfl) ?_
                  obtain ⟨q27, T29, e28, h⟩ := zbp_some h
                  refine y_xcalli hS (vx_runV (As := [.int w6, .int (q1 - (1 : Int32)), .int q1]) (rest := []) ⟨hx, hb, hml, hown, hts⟩ (n_X6_correct l hlt N hN e28) (cwV 3 hts (gM_X6_correct wsM_up) rfl rfl rfl (by decide +kernel) ⟨Nat.le_of_ble_eq_true rfl, Nat.le_of_ble_eq_true rfl⟩) (y_preV hK hE hlo hW hS [.int w6, .int (q1 - (1 : Int32)), .int q1]) rfl rfl hl.1 rfl (lv_room (Nat.le_of_ble_eq_true rfl)) dL_grows_355 ⟨by show c0 + 28 + 3 ≤ 2214; omega, by show 8 * (c0 + 28) + 18 ≤ 17712; omega⟩) (fun k hk H locs q9 ce hW hS hce hcv hcl => by subst hk; cases (show (none : Option (Int32 × yT)) = some (r, Tr) from zx_l h)) (fun r30 hk H locs hW hS => ?_)
                  subst hk
                  have h := zx_r h
                  refine W.widen (k := c0 + 31) (n := 8 * (c0 + 31)) (by omega) (by omega) ?_
                  refine lv_if_ne (tgt := 365) hx hb dL_grows_358 (by decide) (fun c31 => ?_) (fun c31 => ?_)
                  · have h := zin c31 h
                    exact t_L_grows_365 C0 N hN (c0 := c0 + 31)  (by omega) h hW hS (lv_sub hl [] rfl)
                  · have h := zip c31 h
                    refine lv_iconst (v := 1) hx hb dL_grows_361 (by decide) ?_
                    refine lv_goto (tgt := 366) hx hb dL_grows_362 (by decide) ?_
                    exact t_L_grows_366 C0 N hN (c0 := c0 + 31)  (by omega) h hW hS (lv_sub hl [] rfl)
        · have h := zin c7 h
          exact t_L_grows_251 C0 N hN (c0 := c0 + 11)  (by omega) h hW hS (lv_sub hl [1, 2, 3, 4, 0] rfl)
noncomputable def f_L_grows_214 (N : Nat) (s0 : Int32) (T : yT) : Option (Int32 × yT) :=
zg (zbo s0) (
some (s0, T))
set_option maxRecDepth 100000 in
set_option maxHeartbeats 8000000 in
theorem t_L_grows_214 {p : Program} {l : Launch} {e : Env} {s : State} {m : MethodId} {args : Array Value} {below : List Frame} {meth : Method} {c : Code} {D : va_G} {cy : Nat → ClassId} {x0 lo : Nat} (C0 : yCx p l s m c meth args cL_grows 9 wsM_grows RL (some .boolean) D cy lo) (N : Nat) (hN : 10000000 ≤ N) {c0 : Nat} {s0 : Int32} {T : yT} {r : Int32} {Tr : yT} (hc : c0 + 0 ≤ 2214) (h : f_L_grows_214 N s0 T = some (r, Tr)) {H : Heap} {locs : List Loc} {ls : Array Slot} (hW : yWd D cy x0 lo T H) (hS : va_S (yA lo) s.heap H locs) (hl : lv_has ls 9 []) : W p l e (headSpec wsM_grows ({ frames := 19, cells := 2214, slots := 17712, locals := 494 } : Room)).room s m args below meth c H locs (c0) (8 * (c0)) (MQ below (yQi D cy x0 lo r Tr) args s 2214 17712 (yA lo)) (F0 m 214 ls [.int s0]) := by
  obtain ⟨hx, hb, hr, hml, hown, hts, hlocks, hK, hE, hlo, hlt⟩ := id C0
  unfold f_L_grows_214 at h
  obtain ⟨g1, h⟩ := zg_some h
  exact y_zret hx hb hr hlocks hW hS g1 (congrArg Prod.fst (Option.some.inj h)) (congrArg Prod.snd (Option.some.inj h)) dL_grows_214 (by omega) (by omega)
noncomputable def f_L_grows_213 (N : Nat) (T : yT) : Option (Int32 × yT) :=
f_L_grows_214 N (0 : Int32) T
set_option maxRecDepth 100000 in
set_option maxHeartbeats 8000000 in
theorem t_L_grows_213 {p : Program} {l : Launch} {e : Env} {s : State} {m : MethodId} {args : Array Value} {below : List Frame} {meth : Method} {c : Code} {D : va_G} {cy : Nat → ClassId} {x0 lo : Nat} (C0 : yCx p l s m c meth args cL_grows 9 wsM_grows RL (some .boolean) D cy lo) (N : Nat) (hN : 10000000 ≤ N) {c0 : Nat} {T : yT} {r : Int32} {Tr : yT} (hc : c0 + 0 ≤ 2214) (h : f_L_grows_213 N T = some (r, Tr)) {H : Heap} {locs : List Loc} {ls : Array Slot} (hW : yWd D cy x0 lo T H) (hS : va_S (yA lo) s.heap H locs) (hl : lv_has ls 9 []) : W p l e (headSpec wsM_grows ({ frames := 19, cells := 2214, slots := 17712, locals := 494 } : Room)).room s m args below meth c H locs (c0) (8 * (c0)) (MQ below (yQi D cy x0 lo r Tr) args s 2214 17712 (yA lo)) (F0 m 213 ls []) := by
  obtain ⟨hx, hb, hr, hml, hown, hts, hlocks, hK, hE, hlo, hlt⟩ := id C0
  unfold f_L_grows_213 at h
  refine lv_iconst (v := 0) hx hb dL_grows_213 (by decide) ?_
  exact t_L_grows_214 C0 N hN (c0 := c0)  (by omega) h hW hS (lv_sub hl [] rfl)
noncomputable def f_L_grows_160 (N : Nat) (w3 : Int64) (w5 : Int32) (w6 : Int32) (s0 : Int32) (T : yT) : Option (Int32 × yT) :=
(if w6 < 0 then
f_L_grows_215 N w3 w5 w6 s0 T
else
(if w5 ≤ w6 then
f_L_grows_215 N w3 w5 w6 s0 T
else
zbp (y_X6_words T w6) fun q3 T5 => (
zx q3 (fun _ => none) fun r6 => (
(if r6 ≤ (3 : Int32) then
f_L_grows_215 N w3 w5 w6 s0 T5
else
zbp (f_L_call N T5 (1 : Int32) w6 (-1 : Int32) (0 : Int32) (0 : Int32)) fun q8 T10 => (
(if q8 = (-8002 : Int32) then
zbp (f_L_all N T10) fun q12 T14 => (
(if q12 = w3 then
f_L_grows_214 N (1 : Int32) T14
else
f_L_grows_213 N T14))
else
f_L_grows_213 N T10)))))))
set_option maxRecDepth 100000 in
set_option maxHeartbeats 8000000 in
theorem t_L_grows_160 {p : Program} {l : Launch} {e : Env} {s : State} {m : MethodId} {args : Array Value} {below : List Frame} {meth : Method} {c : Code} {D : va_G} {cy : Nat → ClassId} {x0 lo : Nat} (C0 : yCx p l s m c meth args cL_grows 9 wsM_grows RL (some .boolean) D cy lo) (N : Nat) (hN : 10000000 ≤ N) {c0 : Nat} {w3 : Int64} {w5 : Int32} {w6 : Int32} {s0 : Int32} {T : yT} {r : Int32} {Tr : yT} (hc : c0 + 1113 ≤ 2214) (h : f_L_grows_160 N w3 w5 w6 s0 T = some (r, Tr)) {H : Heap} {locs : List Loc} {ls : Array Slot} (hW : yWd D cy x0 lo T H) (hS : va_S (yA lo) s.heap H locs) (hl : lv_has ls 9 [(0, .ref x0), (3, .long w3), (5, .int w5), (6, .int w6)]) : W p l e (headSpec wsM_grows ({ frames := 19, cells := 2214, slots := 17712, locals := 494 } : Room)).room s m args below meth c H locs (c0) (8 * (c0)) (MQ below (yQi D cy x0 lo r Tr) args s 2214 17712 (yA lo)) (F0 m 160 ls [.int s0]) := by
  obtain ⟨hx, hb, hr, hml, hown, hts, hlocks, hK, hE, hlo, hlt⟩ := id C0
  unfold f_L_grows_160 at h
  refine lv_istore (lv' := [(7, .int s0), (0, .ref x0), (3, .long w3), (5, .int w5), (6, .int w6)]) hx hb dL_grows_160 hl (by decide) rfl (fun ls hl => ?_)
  refine lv_iload hx hb dL_grows_162 (lv_at hl 4 rfl) ?_
  refine lv_if_lt (tgt := 215) hx hb dL_grows_164 (by decide) (fun c1 => ?_) (fun c1 => ?_)
  · have h := zip c1 h
    exact t_L_grows_215 C0 N hN (c0 := c0)  (by omega) h hW hS (lv_sub hl [1, 2, 3, 4, 0] rfl)
  · have h := zin c1 h
    refine lv_iload hx hb dL_grows_167 (lv_at hl 4 rfl) ?_
    refine lv_iload hx hb dL_grows_169 (lv_at hl 3 rfl) ?_
    refine lv_icmp_ge (tgt := 215) hx hb dL_grows_171 (by decide) (fun c2 => ?_) (fun c2 => ?_)
    · have h := zip c2 h
      exact t_L_grows_215 C0 N hN (c0 := c0)  (by omega) h hW hS (lv_sub hl [1, 2, 3, 4, 0] rfl)
    · have h := zin c2 h
      refine lv_aload_n hx hb dL_grows_174 rfl (lv_at hl 1 rfl) ?_
      refine lv_iload hx hb dL_grows_175 (lv_at hl 4 rfl) ?_
      obtain ⟨q3, T5, e4, h⟩ := zbp_some h
      refine y_xcalli hS (vx_runV (As := [.int w6]) (rest := []) ⟨hx, hb, hml, hown, hts⟩ (n_X6_words l hlt N hN e4) (cwV 1 hts (gM_X6_words wsM_up) rfl rfl rfl (by decide +kernel) ⟨Nat.le_of_ble_eq_true rfl, Nat.le_of_ble_eq_true rfl⟩) (y_preV hK hE hlo hW hS [.int w6]) rfl rfl hl.1 rfl (lv_room (Nat.le_of_ble_eq_true rfl)) dL_grows_177 ⟨by show c0 + 1 ≤ 2214; omega, by show 8 * (c0) + 6 ≤ 17712; omega⟩) (fun k hk H locs q9 ce hW hS hce hcv hcl => by subst hk; cases (show (none : Option (Int32 × yT)) = some (r, Tr) from zx_l h)) (fun r6 hk H locs hW hS => ?_)
      subst hk
      have h := zx_r h
      refine W.widen (k := c0 + 1) (n := 8 * (c0 + 1)) (by omega) (by omega) ?_
      refine lv_iconst (v := 3) hx hb dL_grows_180 (by decide) ?_
      refine lv_icmp_le (tgt := 215) hx hb dL_grows_181 (by decide) (fun c7 => ?_) (fun c7 => ?_)
      · have h := zip c7 h
        exact t_L_grows_215 C0 N hN (c0 := c0 + 1)  (by omega) h hW hS (lv_sub hl [1, 2, 3, 4, 0] rfl)
      · have h := zin c7 h
        refine lv_aload_n hx hb dL_grows_184 rfl (lv_at hl 1 rfl) ?_
        refine lv_iconst (v := 1) hx hb dL_grows_185 (by decide) ?_
        refine lv_iload hx hb dL_grows_186 (lv_at hl 4 rfl) ?_
        refine lv_iconst (v := -1) hx hb dL_grows_188 (by decide) ?_
        refine lv_iconst (v := 0) hx hb dL_grows_189 (by decide) ?_
        refine lv_iconst (v := 0) hx hb dL_grows_190 (by decide) ?_
        obtain ⟨q8, T10, e9, h⟩ := zbp_some h
        refine y_calli hS (vx_runSW (As := [.ref x0, .int (1 : Int32), .int w6, .int (-1 : Int32), .int (0 : Int32), .int (0 : Int32)]) (rest := []) ⟨hx, hb, hml, hown, hts⟩ (m_L_call l hlt N hN e9) (vx_cwSW (hh := [(0, 11, 12, 14), (0, 11, 18, 16), (0, 11, 24, 18)]) 6 hts (gM_L_call wsM_up) rfl rfl rfl (by decide +kernel) ⟨Nat.le_of_ble_eq_true rfl, Nat.le_of_ble_eq_true rfl⟩) (y_preS hK hE hlo hW hS [.ref x0, .int (1 : Int32), .int w6, .int (-1 : Int32), .int (0 : Int32), .int (0 : Int32)]) rfl rfl hl.1 rfl (lv_room (Nat.le_of_ble_eq_true rfl)) dL_grows_191 ⟨by show c0 + 1 + 11 ≤ 2214; omega, by show 8 * (c0 + 1) + 88 ≤ 17712; omega⟩) (fun H locs hW hS => ?_)
        refine W.widen (k := c0 + 12) (n := 8 * (c0 + 12)) (by omega) (by omega) ?_
        refine lv_sipush (v := -8002) hx hb dL_grows_194 (by decide) ?_
        refine lv_icmp_ne (tgt := 213) hx hb dL_grows_197 (by decide) (fun c11 => ?_) (fun c11 => ?_)
        · have h := zin c11 h
          exact t_L_grows_213 C0 N hN (c0 := c0 + 12)  (by omega) h hW hS (lv_sub hl [] rfl)
        · have h := zip c11 h
          refine lv_aload_n hx hb dL_grows_200 rfl (lv_at hl 1 rfl) ?_
          obtain ⟨q12, T14, e13, h⟩ := zbp_some h
          refine y_calll hS (va_runS (As := [.ref x0]) (rest := []) ⟨hx, hb, hml, hown, hts⟩ (m_L_all l hlt N hN e13) (va_cwS 1 hts (gM_L_all wsM_up) rfl rfl rfl (by decide +kernel) ⟨Nat.le_of_ble_eq_true rfl, Nat.le_of_ble_eq_true rfl⟩) (y_preS hK hE hlo hW hS [.ref x0]) rfl rfl hl.1 rfl (lv_room (Nat.le_of_ble_eq_true rfl)) dL_grows_201 ⟨by show c0 + 12 + 1101 ≤ 2214; omega, by show 8 * (c0 + 12) + 8808 ≤ 17712; omega⟩) (fun H locs hW hS => ?_)
          refine W.widen (k := c0 + 1113) (n := 8 * (c0 + 1113)) (by omega) (by omega) ?_
          refine lv_lload_n hx hb dL_grows_204 rfl (lv_at hl 2 rfl) ?_
          refine z_lc_ne (tgt := 213) hx hb dL_grows_205 dL_grows_206 (by decide) (fun c15 => ?_) (fun c15 => ?_)
          · have h := zin c15 h
            exact t_L_grows_213 C0 N hN (c0 := c0 + 1113)  (by omega) h hW hS (lv_sub hl [] rfl)
          · have h := zip c15 h
            refine lv_iconst (v := 1) hx hb dL_grows_209 (by decide) ?_
            refine lv_goto (tgt := 214) hx hb dL_grows_210 (by decide) ?_
            exact t_L_grows_214 C0 N hN (c0 := c0 + 1113)  (by omega) h hW hS (lv_sub hl [] rfl)
noncomputable def f_L_grows_132 (N : Nat) (w1 : Int32) (w2 : Int32) (w3 : Int64) (w5 : Int32) (s0 : Int32) (T : yT) : Option (Int32 × yT) :=
(if w2 = 0 then
(f_L_some N (w1 >>> ((6 : Int32) &&& 31)) (4 : Int32)).bind fun q2 => (
f_L_grows_160 N w3 w5 s0 q2 T)
else
(f_L_some N (w1 >>> ((6 : Int32) &&& 31)) (6 : Int32)).bind fun q4 => (
f_L_grows_160 N w3 w5 s0 (q4 - (1 : Int32)) T))
set_option maxRecDepth 100000 in
set_option maxHeartbeats 8000000 in
theorem t_L_grows_132 {p : Program} {l : Launch} {e : Env} {s : State} {m : MethodId} {args : Array Value} {below : List Frame} {meth : Method} {c : Code} {D : va_G} {cy : Nat → ClassId} {x0 lo : Nat} (C0 : yCx p l s m c meth args cL_grows 9 wsM_grows RL (some .boolean) D cy lo) (N : Nat) (hN : 10000000 ≤ N) {c0 : Nat} {w1 : Int32} {w2 : Int32} {w3 : Int64} {w5 : Int32} {s0 : Int32} {T : yT} {r : Int32} {Tr : yT} (hc : c0 + 1113 ≤ 2214) (h : f_L_grows_132 N w1 w2 w3 w5 s0 T = some (r, Tr)) {H : Heap} {locs : List Loc} {ls : Array Slot} (hW : yWd D cy x0 lo T H) (hS : va_S (yA lo) s.heap H locs) (hl : lv_has ls 9 [(0, .ref x0), (1, .int w1), (2, .int w2), (3, .long w3), (5, .int w5)]) : W p l e (headSpec wsM_grows ({ frames := 19, cells := 2214, slots := 17712, locals := 494 } : Room)).room s m args below meth c H locs (c0) (8 * (c0)) (MQ below (yQi D cy x0 lo r Tr) args s 2214 17712 (yA lo)) (F0 m 132 ls [.int s0]) := by
  obtain ⟨hx, hb, hr, hml, hown, hts, hlocks, hK, hE, hlo, hlt⟩ := id C0
  unfold f_L_grows_132 at h
  refine lv_istore (lv' := [(6, .int s0), (0, .ref x0), (1, .int w1), (2, .int w2), (3, .long w3), (5, .int w5)]) hx hb dL_grows_132 hl (by decide) rfl (fun ls hl => ?_)
  refine lv_iload_n hx hb dL_grows_134 rfl (lv_at hl 3 rfl) ?_
  refine lv_if_eq (tgt := 152) hx hb dL_grows_135 (by decide) (fun c1 => ?_) (fun c1 => ?_)
  · have h := zip c1 h
    refine lv_iload_n hx hb dL_grows_152 rfl (lv_at hl 2 rfl) ?_
    refine lv_bipush (v := 6) hx hb dL_grows_153 (by decide) ?_
    refine lv_ishr hx hb dL_grows_155 ?_
    refine lv_iconst (v := 4) hx hb dL_grows_156 (by decide) ?_
    obtain ⟨q2, e3, h⟩ := zb_some h
    refine y_calli hS (va_runS (As := [.int (w1 >>> ((6 : Int32) &&& 31)), .int (4 : Int32)]) (rest := []) ⟨hx, hb, hml, hown, hts⟩ (m_L_some l hlt N hN (T := T) e3) (va_cwS 2 hts (gM_L_some wsM_up) rfl rfl rfl (by decide +kernel) ⟨Nat.le_of_ble_eq_true rfl, Nat.le_of_ble_eq_true rfl⟩) (y_preS hK hE hlo hW hS [.int (w1 >>> ((6 : Int32) &&& 31)), .int (4 : Int32)]) rfl rfl hl.1 rfl (lv_room (Nat.le_of_ble_eq_true rfl)) dL_grows_157 ⟨by show c0 + 0 ≤ 2214; omega, by show 8 * (c0) + 0 ≤ 17712; omega⟩) (fun H locs hW hS => ?_)
    exact t_L_grows_160 C0 N hN (c0 := c0)  (by omega) h hW hS (lv_sub hl [1, 4, 5, 0] rfl)
  · have h := zin c1 h
    refine lv_iload_n hx hb dL_grows_138 rfl (lv_at hl 2 rfl) ?_
    refine lv_bipush (v := 6) hx hb dL_grows_139 (by decide) ?_
    refine lv_ishr hx hb dL_grows_141 ?_
    refine lv_bipush (v := 6) hx hb dL_grows_142 (by decide) ?_
    obtain ⟨q4, e5, h⟩ := zb_some h
    refine y_calli hS (va_runS (As := [.int (w1 >>> ((6 : Int32) &&& 31)), .int (6 : Int32)]) (rest := []) ⟨hx, hb, hml, hown, hts⟩ (m_L_some l hlt N hN (T := T) e5) (va_cwS 2 hts (gM_L_some wsM_up) rfl rfl rfl (by decide +kernel) ⟨Nat.le_of_ble_eq_true rfl, Nat.le_of_ble_eq_true rfl⟩) (y_preS hK hE hlo hW hS [.int (w1 >>> ((6 : Int32) &&& 31)), .int (6 : Int32)]) rfl rfl hl.1 rfl (lv_room (Nat.le_of_ble_eq_true rfl)) dL_grows_144 ⟨by show c0 + 0 ≤ 2214; omega, by show 8 * (c0) + 0 ≤ 17712; omega⟩) (fun H locs hW hS => ?_)
    refine lv_iconst (v := 1) hx hb dL_grows_147 (by decide) ?_
    refine lv_isub hx hb dL_grows_148 ?_
    refine lv_goto (tgt := 160) hx hb dL_grows_149 (by decide) ?_
    exact t_L_grows_160 C0 N hN (c0 := c0)  (by omega) h hW hS (lv_sub hl [1, 4, 5, 0] rfl)
noncomputable def f_L_grows_104 (N : Nat) (s0 : Int32) (T : yT) : Option (Int32 × yT) :=
zg (zbo s0) (
some (s0, T))
set_option maxRecDepth 100000 in
set_option maxHeartbeats 8000000 in
theorem t_L_grows_104 {p : Program} {l : Launch} {e : Env} {s : State} {m : MethodId} {args : Array Value} {below : List Frame} {meth : Method} {c : Code} {D : va_G} {cy : Nat → ClassId} {x0 lo : Nat} (C0 : yCx p l s m c meth args cL_grows 9 wsM_grows RL (some .boolean) D cy lo) (N : Nat) (hN : 10000000 ≤ N) {c0 : Nat} {s0 : Int32} {T : yT} {r : Int32} {Tr : yT} (hc : c0 + 0 ≤ 2214) (h : f_L_grows_104 N s0 T = some (r, Tr)) {H : Heap} {locs : List Loc} {ls : Array Slot} (hW : yWd D cy x0 lo T H) (hS : va_S (yA lo) s.heap H locs) (hl : lv_has ls 9 []) : W p l e (headSpec wsM_grows ({ frames := 19, cells := 2214, slots := 17712, locals := 494 } : Room)).room s m args below meth c H locs (c0) (8 * (c0)) (MQ below (yQi D cy x0 lo r Tr) args s 2214 17712 (yA lo)) (F0 m 104 ls [.int s0]) := by
  obtain ⟨hx, hb, hr, hml, hown, hts, hlocks, hK, hE, hlo, hlt⟩ := id C0
  unfold f_L_grows_104 at h
  obtain ⟨g1, h⟩ := zg_some h
  exact y_zret hx hb hr hlocks hW hS g1 (congrArg Prod.fst (Option.some.inj h)) (congrArg Prod.snd (Option.some.inj h)) dL_grows_104 (by omega) (by omega)
noncomputable def f_L_grows_103 (N : Nat) (T : yT) : Option (Int32 × yT) :=
f_L_grows_104 N (0 : Int32) T
set_option maxRecDepth 100000 in
set_option maxHeartbeats 8000000 in
theorem t_L_grows_103 {p : Program} {l : Launch} {e : Env} {s : State} {m : MethodId} {args : Array Value} {below : List Frame} {meth : Method} {c : Code} {D : va_G} {cy : Nat → ClassId} {x0 lo : Nat} (C0 : yCx p l s m c meth args cL_grows 9 wsM_grows RL (some .boolean) D cy lo) (N : Nat) (hN : 10000000 ≤ N) {c0 : Nat} {T : yT} {r : Int32} {Tr : yT} (hc : c0 + 0 ≤ 2214) (h : f_L_grows_103 N T = some (r, Tr)) {H : Heap} {locs : List Loc} {ls : Array Slot} (hW : yWd D cy x0 lo T H) (hS : va_S (yA lo) s.heap H locs) (hl : lv_has ls 9 []) : W p l e (headSpec wsM_grows ({ frames := 19, cells := 2214, slots := 17712, locals := 494 } : Room)).room s m args below meth c H locs (c0) (8 * (c0)) (MQ below (yQi D cy x0 lo r Tr) args s 2214 17712 (yA lo)) (F0 m 103 ls []) := by
  obtain ⟨hx, hb, hr, hml, hown, hts, hlocks, hK, hE, hlo, hlt⟩ := id C0
  unfold f_L_grows_103 at h
  refine lv_iconst (v := 0) hx hb dL_grows_103 (by decide) ?_
  exact t_L_grows_104 C0 N hN (c0 := c0)  (by omega) h hW hS (lv_sub hl [] rfl)
noncomputable def f_L_grows_57 (N : Nat) (T : yT) : Option (Int32 × yT) :=
f_L_grows_104 N (0 : Int32) T
set_option maxRecDepth 100000 in
set_option maxHeartbeats 8000000 in
theorem t_L_grows_57 {p : Program} {l : Launch} {e : Env} {s : State} {m : MethodId} {args : Array Value} {below : List Frame} {meth : Method} {c : Code} {D : va_G} {cy : Nat → ClassId} {x0 lo : Nat} (C0 : yCx p l s m c meth args cL_grows 9 wsM_grows RL (some .boolean) D cy lo) (N : Nat) (hN : 10000000 ≤ N) {c0 : Nat} {T : yT} {r : Int32} {Tr : yT} (hc : c0 + 0 ≤ 2214) (h : f_L_grows_57 N T = some (r, Tr)) {H : Heap} {locs : List Loc} {ls : Array Slot} (hW : yWd D cy x0 lo T H) (hS : va_S (yA lo) s.heap H locs) (hl : lv_has ls 9 []) : W p l e (headSpec wsM_grows ({ frames := 19, cells := 2214, slots := 17712, locals := 494 } : Room)).room s m args below meth c H locs (c0) (8 * (c0)) (MQ below (yQi D cy x0 lo r Tr) args s 2214 17712 (yA lo)) (F0 m 57 ls []) := by
  obtain ⟨hx, hb, hr, hml, hown, hts, hlocks, hK, hE, hlo, hlt⟩ := id C0
  unfold f_L_grows_57 at h
  refine lv_iconst (v := 0) hx hb dL_grows_57 (by decide) ?_
  refine lv_goto (tgt := 104) hx hb dL_grows_58 (by decide) ?_
  exact t_L_grows_104 C0 N hN (c0 := c0)  (by omega) h hW hS (lv_sub hl [] rfl)
noncomputable def f_L_grows_0 (N : Nat) (w1 : Int32) (w2 : Int32) (T : yT) : Option (Int32 × yT) :=
zbp (f_L_all N T) fun q1 T3 => (
zbp (y_X6_sentences T3) fun q4 T6 => (
zx q4 (fun _ => none) fun r7 => (
(f_L_some N w1 (5 : Int32)).bind fun q8 => (
(if q8 = 0 then
zbp (f_L_call N T6 (0 : Int32) (0 : Int32) (0 : Int32) (0 : Int32) (0 : Int32)) fun q16 T18 => (
(if r7 = (5 : Int32) then
(if q16 = (-8003 : Int32) then
zbp (f_L_all N T18) fun q37 T39 => (
(if q37 = q1 then
f_L_grows_104 N (1 : Int32) T39
else
f_L_grows_57 N T39))
else
f_L_grows_57 N T18)
else
(if q16 = r7 then
zbp (y_X6_sentences T18) fun q21 T23 => (
zx q21 (fun _ => none) fun r24 => (
(if r24 = (r7 + (1 : Int32)) then
zbp (y_X6_words T23 r7) fun q26 T28 => (
zx q26 (fun _ => none) fun r29 => (
(if r29 = 0 then
zbp (y_X6_trees T28 r7 (1 : Int32)) fun q31 T33 => (
zx q31 (fun _ => none) fun r34 => (
(if r34 = (1 : Int32) then
f_L_grows_104 N (1 : Int32) T33
else
f_L_grows_103 N T33)))
else
f_L_grows_103 N T28)))
else
f_L_grows_103 N T23)))
else
f_L_grows_103 N T18)))
else
(if w2 = 0 then
(f_L_some N (w1 >>> ((3 : Int32) &&& 31)) r7).bind fun q12 => (
f_L_grows_132 N w1 w2 q1 r7 q12 T6)
else
(f_L_some N (w1 >>> ((3 : Int32) &&& 31)) (r7 + (2 : Int32))).bind fun q14 => (
f_L_grows_132 N w1 w2 q1 r7 (q14 - (1 : Int32)) T6)))))))
set_option maxRecDepth 100000 in
set_option maxHeartbeats 8000000 in
theorem t_L_grows_0 {p : Program} {l : Launch} {e : Env} {s : State} {m : MethodId} {args : Array Value} {below : List Frame} {meth : Method} {c : Code} {D : va_G} {cy : Nat → ClassId} {x0 lo : Nat} (C0 : yCx p l s m c meth args cL_grows 9 wsM_grows RL (some .boolean) D cy lo) (N : Nat) (hN : 10000000 ≤ N) {c0 : Nat} {w1 : Int32} {w2 : Int32} {T : yT} {r : Int32} {Tr : yT} (hc : c0 + 2214 ≤ 2214) (h : f_L_grows_0 N w1 w2 T = some (r, Tr)) {H : Heap} {locs : List Loc} {ls : Array Slot} (hW : yWd D cy x0 lo T H) (hS : va_S (yA lo) s.heap H locs) (hl : lv_has ls 9 [(0, .ref x0), (1, .int w1), (2, .int w2)]) : W p l e (headSpec wsM_grows ({ frames := 19, cells := 2214, slots := 17712, locals := 494 } : Room)).room s m args below meth c H locs (c0) (8 * (c0)) (MQ below (yQi D cy x0 lo r Tr) args s 2214 17712 (yA lo)) (F0 m 0 ls []) := by
  obtain ⟨hx, hb, hr, hml, hown, hts, hlocks, hK, hE, hlo, hlt⟩ := id C0
  unfold f_L_grows_0 at h
  refine lv_aload_n hx hb dL_grows_0 rfl (lv_at hl 0 rfl) ?_
  obtain ⟨q1, T3, e2, h⟩ := zbp_some h
  refine y_calll hS (va_runS (As := [.ref x0]) (rest := []) ⟨hx, hb, hml, hown, hts⟩ (m_L_all l hlt N hN e2) (va_cwS 1 hts (gM_L_all wsM_up) rfl rfl rfl (by decide +kernel) ⟨Nat.le_of_ble_eq_true rfl, Nat.le_of_ble_eq_true rfl⟩) (y_preS hK hE hlo hW hS [.ref x0]) rfl rfl hl.1 rfl (lv_room (Nat.le_of_ble_eq_true rfl)) dL_grows_1 ⟨by show c0 + 1101 ≤ 2214; omega, by show 8 * (c0) + 8808 ≤ 17712; omega⟩) (fun H locs hW hS => ?_)
  refine W.widen (k := c0 + 1101) (n := 8 * (c0 + 1101)) (by omega) (by omega) ?_
  refine lv_lstore_n (lv' := [(3, .long q1), (0, .ref x0), (1, .int w1), (2, .int w2)]) hx hb dL_grows_4 rfl hl (by decide) rfl (fun ls hl => ?_)
  refine lv_aload_n hx hb dL_grows_5 rfl (lv_at hl 1 rfl) ?_
  obtain ⟨q4, T6, e5, h⟩ := zbp_some h
  refine y_xcalli hS (vx_runV (As := []) (rest := []) ⟨hx, hb, hml, hown, hts⟩ (n_X6_sentences l hlt N hN e5) (cwV 0 hts (gM_X6_sentences wsM_up) rfl rfl rfl (by decide +kernel) ⟨Nat.le_of_ble_eq_true rfl, Nat.le_of_ble_eq_true rfl⟩) (y_preV hK hE hlo hW hS []) rfl rfl hl.1 rfl (lv_room (Nat.le_of_ble_eq_true rfl)) dL_grows_6 ⟨by show c0 + 1101 + 0 ≤ 2214; omega, by show 8 * (c0 + 1101) + 0 ≤ 17712; omega⟩) (fun k hk H locs q9 ce hW hS hce hcv hcl => by subst hk; cases (show (none : Option (Int32 × yT)) = some (r, Tr) from zx_l h)) (fun r7 hk H locs hW hS => ?_)
  subst hk
  have h := zx_r h
  refine lv_istore (lv' := [(5, .int r7), (3, .long q1), (0, .ref x0), (1, .int w1), (2, .int w2)]) hx hb dL_grows_9 hl (by decide) rfl (fun ls hl => ?_)
  refine lv_iload_n hx hb dL_grows_11 rfl (lv_at hl 3 rfl) ?_
  refine lv_iconst (v := 5) hx hb dL_grows_12 (by decide) ?_
  obtain ⟨q8, e9, h⟩ := zb_some h
  refine y_calli hS (va_runS (As := [.int w1, .int (5 : Int32)]) (rest := []) ⟨hx, hb, hml, hown, hts⟩ (m_L_some l hlt N hN (T := T6) e9) (va_cwS 2 hts (gM_L_some wsM_up) rfl rfl rfl (by decide +kernel) ⟨Nat.le_of_ble_eq_true rfl, Nat.le_of_ble_eq_true rfl⟩) (y_preS hK hE hlo hW hS [.int w1, .int (5 : Int32)]) rfl rfl hl.1 rfl (lv_room (Nat.le_of_ble_eq_true rfl)) dL_grows_13 ⟨by show c0 + 1101 + 0 ≤ 2214; omega, by show 8 * (c0 + 1101) + 0 ≤ 17712; omega⟩) (fun H locs hW hS => ?_)
  refine lv_if_ne (tgt := 105) hx hb dL_grows_16 (by decide) (fun c10 => ?_) (fun c10 => ?_)
  · have h := zin c10 h
    refine lv_iload_n hx hb dL_grows_105 rfl (lv_at hl 4 rfl) ?_
    refine lv_if_eq (tgt := 124) hx hb dL_grows_106 (by decide) (fun c11 => ?_) (fun c11 => ?_)
    · have h := zip c11 h
      refine lv_iload_n hx hb dL_grows_124 rfl (lv_at hl 3 rfl) ?_
      refine lv_iconst (v := 3) hx hb dL_grows_125 (by decide) ?_
      refine lv_ishr hx hb dL_grows_126 ?_
      refine lv_iload hx hb dL_grows_127 (lv_at hl 0 rfl) ?_
      obtain ⟨q12, e13, h⟩ := zb_some h
      refine y_calli hS (va_runS (As := [.int (w1 >>> ((3 : Int32) &&& 31)), .int r7]) (rest := []) ⟨hx, hb, hml, hown, hts⟩ (m_L_some l hlt N hN (T := T6) e13) (va_cwS 2 hts (gM_L_some wsM_up) rfl rfl rfl (by decide +kernel) ⟨Nat.le_of_ble_eq_true rfl, Nat.le_of_ble_eq_true rfl⟩) (y_preS hK hE hlo hW hS [.int (w1 >>> ((3 : Int32) &&& 31)), .int r7]) rfl rfl hl.1 rfl (lv_room (Nat.le_of_ble_eq_true rfl)) dL_grows_129 ⟨by show c0 + 1101 + 0 ≤ 2214; omega, by show 8 * (c0 + 1101) + 0 ≤ 17712; omega⟩) (fun H locs hW hS => ?_)
      exact t_L_grows_132 C0 N hN (c0 := c0 + 1101)  (by omega) h hW hS (lv_sub hl [2, 3, 4, 1, 0] rfl)
    · have h := zin c11 h
      refine lv_iload_n hx hb dL_grows_109 rfl (lv_at hl 3 rfl) ?_
      refine lv_iconst (v := 3) hx hb dL_grows_110 (by decide) ?_
      refine lv_ishr hx hb dL_grows_111 ?_
      refine lv_iload hx hb dL_grows_112 (lv_at hl 0 rfl) ?_
      refine lv_iconst (v := 2) hx hb dL_grows_114 (by decide) ?_
      refine lv_iadd hx hb dL_grows_115 ?_
      obtain ⟨q14, e15, h⟩ := zb_some h
      refine y_calli hS (va_runS (As := [.int (w1 >>> ((3 : Int32) &&& 31)), .int (r7 + (2 : Int32))]) (rest := []) ⟨hx, hb, hml, hown, hts⟩ (m_L_some l hlt N hN (T := T6) e15) (va_cwS 2 hts (gM_L_some wsM_up) rfl rfl rfl (by decide +kernel) ⟨Nat.le_of_ble_eq_true rfl, Nat.le_of_ble_eq_true rfl⟩) (y_preS hK hE hlo hW hS [.int (w1 >>> ((3 : Int32) &&& 31)), .int (r7 + (2 : Int32))]) rfl rfl hl.1 rfl (lv_room (Nat.le_of_ble_eq_true rfl)) dL_grows_116 ⟨by show c0 + 1101 + 0 ≤ 2214; omega, by show 8 * (c0 + 1101) + 0 ≤ 17712; omega⟩) (fun H locs hW hS => ?_)
      refine lv_iconst (v := 1) hx hb dL_grows_119 (by decide) ?_
      refine lv_isub hx hb dL_grows_120 ?_
      refine lv_goto (tgt := 132) hx hb dL_grows_121 (by decide) ?_
      exact t_L_grows_132 C0 N hN (c0 := c0 + 1101)  (by omega) h hW hS (lv_sub hl [2, 3, 4, 1, 0] rfl)
  · have h := zip c10 h
    refine lv_aload_n hx hb dL_grows_19 rfl (lv_at hl 2 rfl) ?_
    refine lv_iconst (v := 0) hx hb dL_grows_20 (by decide) ?_
    refine lv_iconst (v := 0) hx hb dL_grows_21 (by decide) ?_
    refine lv_iconst (v := 0) hx hb dL_grows_22 (by decide) ?_
    refine lv_iconst (v := 0) hx hb dL_grows_23 (by decide) ?_
    refine lv_iconst (v := 0) hx hb dL_grows_24 (by decide) ?_
    obtain ⟨q16, T18, e17, h⟩ := zbp_some h
    refine y_calli hS (vx_runSW (As := [.ref x0, .int (0 : Int32), .int (0 : Int32), .int (0 : Int32), .int (0 : Int32), .int (0 : Int32)]) (rest := []) ⟨hx, hb, hml, hown, hts⟩ (m_L_call l hlt N hN e17) (vx_cwSW (hh := [(0, 11, 12, 14), (0, 11, 18, 16), (0, 11, 24, 18)]) 6 hts (gM_L_call wsM_up) rfl rfl rfl (by decide +kernel) ⟨Nat.le_of_ble_eq_true rfl, Nat.le_of_ble_eq_true rfl⟩) (y_preS hK hE hlo hW hS [.ref x0, .int (0 : Int32), .int (0 : Int32), .int (0 : Int32), .int (0 : Int32), .int (0 : Int32)]) rfl rfl hl.1 rfl (lv_room (Nat.le_of_ble_eq_true rfl)) dL_grows_25 ⟨by show c0 + 1101 + 11 ≤ 2214; omega, by show 8 * (c0 + 1101) + 88 ≤ 17712; omega⟩) (fun H locs hW hS => ?_)
    refine W.widen (k := c0 + 1112) (n := 8 * (c0 + 1112)) (by omega) (by omega) ?_
    refine lv_istore (lv' := [(6, .int q16), (5, .int r7), (3, .long q1), (0, .ref x0), (1, .int w1), (2, .int w2)]) hx hb dL_grows_28 hl (by decide) rfl (fun ls hl => ?_)
    refine lv_iload hx hb dL_grows_30 (lv_at hl 1 rfl) ?_
    refine lv_iconst (v := 5) hx hb dL_grows_32 (by decide) ?_
    refine lv_icmp_ne (tgt := 61) hx hb dL_grows_33 (by decide) (fun c19 => ?_) (fun c19 => ?_)
    · have h := zin c19 h
      refine lv_iload hx hb dL_grows_61 (lv_at hl 0 rfl) ?_
      refine lv_iload hx hb dL_grows_63 (lv_at hl 1 rfl) ?_
      refine lv_icmp_ne (tgt := 103) hx hb dL_grows_65 (by decide) (fun c20 => ?_) (fun c20 => ?_)
      · have h := zin c20 h
        exact t_L_grows_103 C0 N hN (c0 := c0 + 1112)  (by omega) h hW hS (lv_sub hl [] rfl)
      · have h := zip c20 h
        refine lv_aload_n hx hb dL_grows_68 rfl (lv_at hl 3 rfl) ?_
        obtain ⟨q21, T23, e22, h⟩ := zbp_some h
        refine y_xcalli hS (vx_runV (As := []) (rest := []) ⟨hx, hb, hml, hown, hts⟩ (n_X6_sentences l hlt N hN e22) (cwV 0 hts (gM_X6_sentences wsM_up) rfl rfl rfl (by decide +kernel) ⟨Nat.le_of_ble_eq_true rfl, Nat.le_of_ble_eq_true rfl⟩) (y_preV hK hE hlo hW hS []) rfl rfl hl.1 rfl (lv_room (Nat.le_of_ble_eq_true rfl)) dL_grows_69 ⟨by show c0 + 1112 + 0 ≤ 2214; omega, by show 8 * (c0 + 1112) + 0 ≤ 17712; omega⟩) (fun k hk H locs q9 ce hW hS hce hcv hcl => by subst hk; cases (show (none : Option (Int32 × yT)) = some (r, Tr) from zx_l h)) (fun r24 hk H locs hW hS => ?_)
        subst hk
        have h := zx_r h
        refine lv_iload hx hb dL_grows_72 (lv_at hl 1 rfl) ?_
        refine lv_iconst (v := 1) hx hb dL_grows_74 (by decide) ?_
        refine lv_iadd hx hb dL_grows_75 ?_
        refine lv_icmp_ne (tgt := 103) hx hb dL_grows_76 (by decide) (fun c25 => ?_) (fun c25 => ?_)
        · have h := zin c25 h
          exact t_L_grows_103 C0 N hN (c0 := c0 + 1112)  (by omega) h hW hS (lv_sub hl [] rfl)
        · have h := zip c25 h
          refine lv_aload_n hx hb dL_grows_79 rfl (lv_at hl 3 rfl) ?_
          refine lv_iload hx hb dL_grows_80 (lv_at hl 1 rfl) ?_
          obtain ⟨q26, T28, e27, h⟩ := zbp_some h
          refine y_xcalli hS (vx_runV (As := [.int r7]) (rest := []) ⟨hx, hb, hml, hown, hts⟩ (n_X6_words l hlt N hN e27) (cwV 1 hts (gM_X6_words wsM_up) rfl rfl rfl (by decide +kernel) ⟨Nat.le_of_ble_eq_true rfl, Nat.le_of_ble_eq_true rfl⟩) (y_preV hK hE hlo hW hS [.int r7]) rfl rfl hl.1 rfl (lv_room (Nat.le_of_ble_eq_true rfl)) dL_grows_82 ⟨by show c0 + 1112 + 1 ≤ 2214; omega, by show 8 * (c0 + 1112) + 6 ≤ 17712; omega⟩) (fun k hk H locs q9 ce hW hS hce hcv hcl => by subst hk; cases (show (none : Option (Int32 × yT)) = some (r, Tr) from zx_l h)) (fun r29 hk H locs hW hS => ?_)
          subst hk
          have h := zx_r h
          refine W.widen (k := c0 + 1113) (n := 8 * (c0 + 1113)) (by omega) (by omega) ?_
          refine lv_if_ne (tgt := 103) hx hb dL_grows_85 (by decide) (fun c30 => ?_) (fun c30 => ?_)
          · have h := zin c30 h
            exact t_L_grows_103 C0 N hN (c0 := c0 + 1113)  (by omega) h hW hS (lv_sub hl [] rfl)
          · have h := zip c30 h
            refine lv_aload_n hx hb dL_grows_88 rfl (lv_at hl 3 rfl) ?_
            refine lv_iload hx hb dL_grows_89 (lv_at hl 1 rfl) ?_
            refine lv_iconst (v := 1) hx hb dL_grows_91 (by decide) ?_
            obtain ⟨q31, T33, e32, h⟩ := zbp_some h
            refine y_xcalli hS (vx_runV (As := [.int r7, .int (1 : Int32)]) (rest := []) ⟨hx, hb, hml, hown, hts⟩ (n_X6_trees l hlt N hN e32) (cwV 2 hts (gM_X6_trees wsM_up) rfl rfl rfl (by decide +kernel) ⟨Nat.le_of_ble_eq_true rfl, Nat.le_of_ble_eq_true rfl⟩) (y_preV hK hE hlo hW hS [.int r7, .int (1 : Int32)]) rfl rfl hl.1 rfl (lv_room (Nat.le_of_ble_eq_true rfl)) dL_grows_92 ⟨by show c0 + 1113 + 1 ≤ 2214; omega, by show 8 * (c0 + 1113) + 6 ≤ 17712; omega⟩) (fun k hk H locs q9 ce hW hS hce hcv hcl => by subst hk; cases (show (none : Option (Int32 × yT)) = some (r, Tr) from zx_l h)) (fun r34 hk H locs hW hS => ?_)
            subst hk
            have h := zx_r h
            refine W.widen (k := c0 + 1114) (n := 8 * (c0 + 1114)) (by omega) (by omega) ?_
            refine lv_iconst (v := 1) hx hb dL_grows_95 (by decide) ?_
            refine lv_icmp_ne (tgt := 103) hx hb dL_grows_96 (by decide) (fun c35 => ?_) (fun c35 => ?_)
            · have h := zin c35 h
              exact t_L_grows_103 C0 N hN (c0 := c0 + 1114)  (by omega) h hW hS (lv_sub hl [] rfl)
            · have h := zip c35 h
              refine lv_iconst (v := 1) hx hb dL_grows_99 (by decide) ?_
              refine lv_goto (tgt := 104) hx hb dL_grows_100 (by decide) ?_
              exact t_L_grows_104 C0 N hN (c0 := c0 + 1114)  (by omega) h hW hS (lv_sub hl [] rfl)
    · have h := zip c19 h
      refine lv_iload hx hb dL_grows_36 (lv_at hl 0 rfl) ?_
      refine lv_sipush (v := -8003) hx hb dL_grows_38 (by decide) ?_
      refine lv_icmp_ne (tgt := 57) hx hb dL_grows_41 (by decide) (fun c36 => ?_) (fun c36 => ?_)
      · have h := zin c36 h
        exact t_L_grows_57 C0 N hN (c0 := c0 + 1112)  (by omega) h hW hS (lv_sub hl [] rfl)
      · have h := zip c36 h
        refine lv_aload_n hx hb dL_grows_44 rfl (lv_at hl 3 rfl) ?_
        obtain ⟨q37, T39, e38, h⟩ := zbp_some h
        refine y_calll hS (va_runS (As := [.ref x0]) (rest := []) ⟨hx, hb, hml, hown, hts⟩ (m_L_all l hlt N hN e38) (va_cwS 1 hts (gM_L_all wsM_up) rfl rfl rfl (by decide +kernel) ⟨Nat.le_of_ble_eq_true rfl, Nat.le_of_ble_eq_true rfl⟩) (y_preS hK hE hlo hW hS [.ref x0]) rfl rfl hl.1 rfl (lv_room (Nat.le_of_ble_eq_true rfl)) dL_grows_45 ⟨by show c0 + 1112 + 1101 ≤ 2214; omega, by show 8 * (c0 + 1112) + 8808 ≤ 17712; omega⟩) (fun H locs hW hS => ?_)
        refine W.widen (k := c0 + 2213) (n := 8 * (c0 + 2213)) (by omega) (by omega) ?_
        refine lv_lload_n hx hb dL_grows_48 rfl (lv_at hl 2 rfl) ?_
        refine z_lc_ne (tgt := 57) hx hb dL_grows_49 dL_grows_50 (by decide) (fun c40 => ?_) (fun c40 => ?_)
        · have h := zin c40 h
          exact t_L_grows_57 C0 N hN (c0 := c0 + 2213)  (by omega) h hW hS (lv_sub hl [] rfl)
        · have h := zip c40 h
          refine lv_iconst (v := 1) hx hb dL_grows_53 (by decide) ?_
          refine lv_goto (tgt := 104) hx hb dL_grows_54 (by decide) ?_
          exact t_L_grows_104 C0 N hN (c0 := c0 + 2213)  (by omega) h hW hS (lv_sub hl [] rfl)
noncomputable def f_L_grows (N : Nat) (T : yT) (a1 : Int32) (a2 : Int32) : Option (Int32 × yT) := f_L_grows_0 N a1 a2 T
set_option maxRecDepth 100000 in
set_option maxHeartbeats 8000000 in
theorem m_L_grows (l : Launch) (hlt : l.stackTraces = false) (N : Nat) (hN : 10000000 ≤ N) {D : va_G} {cy : Nat → ClassId} {x0 lo : Nat} {T : yT} {a1 : Int32} {a2 : Int32} {r : Int32} {Tr : yT} (h : f_L_grows N T a1 a2 = some (r, Tr)) : Met l yL_grows wsM_grows ({ frames := 19, cells := 2214, slots := 17712, locals := 494 } : Room) (yPre D cy x0 lo [.ref x0, .int a1, .int a2] T) (yQi D cy x0 lo r Tr) 2214 17712 (yA lo) :=
  y_entry hlt (av := [.ref x0, .int a1, .int a2]) (by decide) rfl rfl (Nat.le_of_ble_eq_true rfl) (fun p e s m args below meth c C0 H locs ls hW hS hl => t_L_grows_0 C0 N hN (c0 := 0) (by decide) h hW hS (lv_sub hl [0, 1, 2] rfl))
noncomputable def f_L_weighs_301 (N : Nat) (s0 : Int32) (T : yT) : Option (Int32 × yT) :=
zg (zbo s0) (
some (s0, T))
set_option maxRecDepth 100000 in
set_option maxHeartbeats 8000000 in
theorem t_L_weighs_301 {p : Program} {l : Launch} {e : Env} {s : State} {m : MethodId} {args : Array Value} {below : List Frame} {meth : Method} {c : Code} {D : va_G} {cy : Nat → ClassId} {x0 lo : Nat} (C0 : yCx p l s m c meth args cL_weighs 11 wsM_weighs RL (some .boolean) D cy lo) (N : Nat) (hN : 10000000 ≤ N) {c0 : Nat} {s0 : Int32} {T : yT} {r : Int32} {Tr : yT} (hc : c0 + 0 ≤ 3330) (h : f_L_weighs_301 N s0 T = some (r, Tr)) {H : Heap} {locs : List Loc} {ls : Array Slot} (hW : yWd D cy x0 lo T H) (hS : va_S (yA lo) s.heap H locs) (hl : lv_has ls 11 []) : W p l e (headSpec wsM_weighs ({ frames := 19, cells := 3330, slots := 26640, locals := 494 } : Room)).room s m args below meth c H locs (c0) (8 * (c0)) (MQ below (yQi D cy x0 lo r Tr) args s 3330 26640 (yA lo)) (F0 m 301 ls [.int s0]) := by
  obtain ⟨hx, hb, hr, hml, hown, hts, hlocks, hK, hE, hlo, hlt⟩ := id C0
  unfold f_L_weighs_301 at h
  obtain ⟨g1, h⟩ := zg_some h
  exact y_zret hx hb hr hlocks hW hS g1 (congrArg Prod.fst (Option.some.inj h)) (congrArg Prod.snd (Option.some.inj h)) dL_weighs_301 (by omega) (by omega)
noncomputable def f_L_weighs_300 (N : Nat) (T : yT) : Option (Int32 × yT) :=
f_L_weighs_301 N (0 : Int32) T
set_option maxRecDepth 100000 in
set_option maxHeartbeats 8000000 in
theorem t_L_weighs_300 {p : Program} {l : Launch} {e : Env} {s : State} {m : MethodId} {args : Array Value} {below : List Frame} {meth : Method} {c : Code} {D : va_G} {cy : Nat → ClassId} {x0 lo : Nat} (C0 : yCx p l s m c meth args cL_weighs 11 wsM_weighs RL (some .boolean) D cy lo) (N : Nat) (hN : 10000000 ≤ N) {c0 : Nat} {T : yT} {r : Int32} {Tr : yT} (hc : c0 + 0 ≤ 3330) (h : f_L_weighs_300 N T = some (r, Tr)) {H : Heap} {locs : List Loc} {ls : Array Slot} (hW : yWd D cy x0 lo T H) (hS : va_S (yA lo) s.heap H locs) (hl : lv_has ls 11 []) : W p l e (headSpec wsM_weighs ({ frames := 19, cells := 3330, slots := 26640, locals := 494 } : Room)).room s m args below meth c H locs (c0) (8 * (c0)) (MQ below (yQi D cy x0 lo r Tr) args s 3330 26640 (yA lo)) (F0 m 300 ls []) := by
  obtain ⟨hx, hb, hr, hml, hown, hts, hlocks, hK, hE, hlo, hlt⟩ := id C0
  unfold f_L_weighs_300 at h
  refine lv_iconst (v := 0) hx hb dL_weighs_300 (by decide) ?_
  exact t_L_weighs_301 C0 N hN (c0 := c0)  (by omega) h hW hS (lv_sub hl [] rfl)
noncomputable def f_L_weighs_296 (N : Nat) (T : yT) : Option (Int32 × yT) :=
f_L_weighs_301 N (1 : Int32) T
set_option maxRecDepth 100000 in
set_option maxHeartbeats 8000000 in
theorem t_L_weighs_296 {p : Program} {l : Launch} {e : Env} {s : State} {m : MethodId} {args : Array Value} {below : List Frame} {meth : Method} {c : Code} {D : va_G} {cy : Nat → ClassId} {x0 lo : Nat} (C0 : yCx p l s m c meth args cL_weighs 11 wsM_weighs RL (some .boolean) D cy lo) (N : Nat) (hN : 10000000 ≤ N) {c0 : Nat} {T : yT} {r : Int32} {Tr : yT} (hc : c0 + 0 ≤ 3330) (h : f_L_weighs_296 N T = some (r, Tr)) {H : Heap} {locs : List Loc} {ls : Array Slot} (hW : yWd D cy x0 lo T H) (hS : va_S (yA lo) s.heap H locs) (hl : lv_has ls 11 []) : W p l e (headSpec wsM_weighs ({ frames := 19, cells := 3330, slots := 26640, locals := 494 } : Room)).room s m args below meth c H locs (c0) (8 * (c0)) (MQ below (yQi D cy x0 lo r Tr) args s 3330 26640 (yA lo)) (F0 m 296 ls []) := by
  obtain ⟨hx, hb, hr, hml, hown, hts, hlocks, hK, hE, hlo, hlt⟩ := id C0
  unfold f_L_weighs_296 at h
  refine lv_iconst (v := 1) hx hb dL_weighs_296 (by decide) ?_
  refine lv_goto (tgt := 301) hx hb dL_weighs_297 (by decide) ?_
  exact t_L_weighs_301 C0 N hN (c0 := c0)  (by omega) h hW hS (lv_sub hl [] rfl)
noncomputable def f_L_weighs_262 (N : Nat) (w1 : Int32) (w3 : Int64) (s0 : Int32) (T : yT) : Option (Int32 × yT) :=
(if s0 = 0 then
f_L_weighs_300 N T
else
(f_L_some N (w1 >>> ((11 : Int32) &&& 31)) (4 : Int32)).bind fun q2 => (
(if (0 : Int32) < q2 then
f_L_weighs_296 N T
else
zbp (y_X6_rollBack T) fun q5 T7 => (
zx q5 (fun _ => none) fun r8 => (
(if r8 < 0 then
f_L_weighs_300 N T7
else
zbp (f_L_all N T7) fun q10 T12 => (
(if q10 = w3 then
f_L_weighs_296 N T12
else
f_L_weighs_300 N T12))))))))
set_option maxRecDepth 100000 in
set_option maxHeartbeats 8000000 in
theorem t_L_weighs_262 {p : Program} {l : Launch} {e : Env} {s : State} {m : MethodId} {args : Array Value} {below : List Frame} {meth : Method} {c : Code} {D : va_G} {cy : Nat → ClassId} {x0 lo : Nat} (C0 : yCx p l s m c meth args cL_weighs 11 wsM_weighs RL (some .boolean) D cy lo) (N : Nat) (hN : 10000000 ≤ N) {c0 : Nat} {w1 : Int32} {w3 : Int64} {s0 : Int32} {T : yT} {r : Int32} {Tr : yT} (hc : c0 + 1102 ≤ 3330) (h : f_L_weighs_262 N w1 w3 s0 T = some (r, Tr)) {H : Heap} {locs : List Loc} {ls : Array Slot} (hW : yWd D cy x0 lo T H) (hS : va_S (yA lo) s.heap H locs) (hl : lv_has ls 11 [(0, .ref x0), (1, .int w1), (3, .long w3)]) : W p l e (headSpec wsM_weighs ({ frames := 19, cells := 3330, slots := 26640, locals := 494 } : Room)).room s m args below meth c H locs (c0) (8 * (c0)) (MQ below (yQi D cy x0 lo r Tr) args s 3330 26640 (yA lo)) (F0 m 262 ls [.int s0]) := by
  obtain ⟨hx, hb, hr, hml, hown, hts, hlocks, hK, hE, hlo, hlt⟩ := id C0
  unfold f_L_weighs_262 at h
  refine lv_istore (lv' := [(9, .int s0), (0, .ref x0), (1, .int w1), (3, .long w3)]) hx hb dL_weighs_262 hl (by decide) rfl (fun ls hl => ?_)
  refine lv_iload hx hb dL_weighs_264 (lv_at hl 0 rfl) ?_
  refine lv_if_eq (tgt := 300) hx hb dL_weighs_266 (by decide) (fun c1 => ?_) (fun c1 => ?_)
  · have h := zip c1 h
    exact t_L_weighs_300 C0 N hN (c0 := c0)  (by omega) h hW hS (lv_sub hl [] rfl)
  · have h := zin c1 h
    refine lv_iload_n hx hb dL_weighs_269 rfl (lv_at hl 2 rfl) ?_
    refine lv_bipush (v := 11) hx hb dL_weighs_270 (by decide) ?_
    refine lv_ishr hx hb dL_weighs_272 ?_
    refine lv_iconst (v := 4) hx hb dL_weighs_273 (by decide) ?_
    obtain ⟨q2, e3, h⟩ := zb_some h
    refine y_calli hS (va_runS (As := [.int (w1 >>> ((11 : Int32) &&& 31)), .int (4 : Int32)]) (rest := []) ⟨hx, hb, hml, hown, hts⟩ (m_L_some l hlt N hN (T := T) e3) (va_cwS 2 hts (gM_L_some wsM_up) rfl rfl rfl (by decide +kernel) ⟨Nat.le_of_ble_eq_true rfl, Nat.le_of_ble_eq_true rfl⟩) (y_preS hK hE hlo hW hS [.int (w1 >>> ((11 : Int32) &&& 31)), .int (4 : Int32)]) rfl rfl hl.1 rfl (lv_room (Nat.le_of_ble_eq_true rfl)) dL_weighs_274 ⟨by show c0 + 0 ≤ 3330; omega, by show 8 * (c0) + 0 ≤ 26640; omega⟩) (fun H locs hW hS => ?_)
    refine lv_if_gt (tgt := 296) hx hb dL_weighs_277 (by decide) (fun c4 => ?_) (fun c4 => ?_)
    · have h := zip c4 h
      exact t_L_weighs_296 C0 N hN (c0 := c0)  (by omega) h hW hS (lv_sub hl [] rfl)
    · have h := zin c4 h
      refine lv_aload_n hx hb dL_weighs_280 rfl (lv_at hl 1 rfl) ?_
      obtain ⟨q5, T7, e6, h⟩ := zbp_some h
      refine y_xcalli hS (vx_runV (As := []) (rest := []) ⟨hx, hb, hml, hown, hts⟩ (n_X6_rollBack l hlt N hN e6) (cwV 0 hts (gM_X6_rollBack wsM_up) rfl rfl rfl (by decide +kernel) ⟨Nat.le_of_ble_eq_true rfl, Nat.le_of_ble_eq_true rfl⟩) (y_preV hK hE hlo hW hS []) rfl rfl hl.1 rfl (lv_room (Nat.le_of_ble_eq_true rfl)) dL_weighs_281 ⟨by show c0 + 1 ≤ 3330; omega, by show 8 * (c0) + 6 ≤ 26640; omega⟩) (fun k hk H locs q9 ce hW hS hce hcv hcl => by subst hk; cases (show (none : Option (Int32 × yT)) = some (r, Tr) from zx_l h)) (fun r8 hk H locs hW hS => ?_)
      subst hk
      have h := zx_r h
      refine W.widen (k := c0 + 1) (n := 8 * (c0 + 1)) (by omega) (by omega) ?_
      refine lv_if_lt (tgt := 300) hx hb dL_weighs_284 (by decide) (fun c9 => ?_) (fun c9 => ?_)
      · have h := zip c9 h
        exact t_L_weighs_300 C0 N hN (c0 := c0 + 1)  (by omega) h hW hS (lv_sub hl [] rfl)
      · have h := zin c9 h
        refine lv_aload_n hx hb dL_weighs_287 rfl (lv_at hl 1 rfl) ?_
        obtain ⟨q10, T12, e11, h⟩ := zbp_some h
        refine y_calll hS (va_runS (As := [.ref x0]) (rest := []) ⟨hx, hb, hml, hown, hts⟩ (m_L_all l hlt N hN e11) (va_cwS 1 hts (gM_L_all wsM_up) rfl rfl rfl (by decide +kernel) ⟨Nat.le_of_ble_eq_true rfl, Nat.le_of_ble_eq_true rfl⟩) (y_preS hK hE hlo hW hS [.ref x0]) rfl rfl hl.1 rfl (lv_room (Nat.le_of_ble_eq_true rfl)) dL_weighs_288 ⟨by show c0 + 1 + 1101 ≤ 3330; omega, by show 8 * (c0 + 1) + 8808 ≤ 26640; omega⟩) (fun H locs hW hS => ?_)
        refine W.widen (k := c0 + 1102) (n := 8 * (c0 + 1102)) (by omega) (by omega) ?_
        refine lv_lload_n hx hb dL_weighs_291 rfl (lv_at hl 3 rfl) ?_
        refine z_lc_ne (tgt := 300) hx hb dL_weighs_292 dL_weighs_293 (by decide) (fun c13 => ?_) (fun c13 => ?_)
        · have h := zin c13 h
          exact t_L_weighs_300 C0 N hN (c0 := c0 + 1102)  (by omega) h hW hS (lv_sub hl [] rfl)
        · have h := zip c13 h
          exact t_L_weighs_296 C0 N hN (c0 := c0 + 1102)  (by omega) h hW hS (lv_sub hl [] rfl)
noncomputable def f_L_weighs_261 (N : Nat) (w1 : Int32) (w3 : Int64) (T : yT) : Option (Int32 × yT) :=
f_L_weighs_262 N w1 w3 (0 : Int32) T
set_option maxRecDepth 100000 in
set_option maxHeartbeats 8000000 in
theorem t_L_weighs_261 {p : Program} {l : Launch} {e : Env} {s : State} {m : MethodId} {args : Array Value} {below : List Frame} {meth : Method} {c : Code} {D : va_G} {cy : Nat → ClassId} {x0 lo : Nat} (C0 : yCx p l s m c meth args cL_weighs 11 wsM_weighs RL (some .boolean) D cy lo) (N : Nat) (hN : 10000000 ≤ N) {c0 : Nat} {w1 : Int32} {w3 : Int64} {T : yT} {r : Int32} {Tr : yT} (hc : c0 + 1102 ≤ 3330) (h : f_L_weighs_261 N w1 w3 T = some (r, Tr)) {H : Heap} {locs : List Loc} {ls : Array Slot} (hW : yWd D cy x0 lo T H) (hS : va_S (yA lo) s.heap H locs) (hl : lv_has ls 11 [(0, .ref x0), (1, .int w1), (3, .long w3)]) : W p l e (headSpec wsM_weighs ({ frames := 19, cells := 3330, slots := 26640, locals := 494 } : Room)).room s m args below meth c H locs (c0) (8 * (c0)) (MQ below (yQi D cy x0 lo r Tr) args s 3330 26640 (yA lo)) (F0 m 261 ls []) := by
  obtain ⟨hx, hb, hr, hml, hown, hts, hlocks, hK, hE, hlo, hlt⟩ := id C0
  unfold f_L_weighs_261 at h
  refine lv_iconst (v := 0) hx hb dL_weighs_261 (by decide) ?_
  exact t_L_weighs_262 C0 N hN (c0 := c0)  (by omega) h hW hS (lv_sub hl [0, 1, 2] rfl)
noncomputable def f_L_weighs_210 (N : Nat) (w1 : Int32) (w3 : Int64) (w5 : Int32) (w6 : Int32) (w7 : Int32) (s0 : Int32) (T : yT) : Option (Int32 × yT) :=
zbp (y_X6_rollBack T) fun q1 T3 => (
zx q1 (fun _ => none) fun r4 => (
(if s0 = 0 then
f_L_weighs_261 N w1 w3 T3
else
(if r4 < 0 then
f_L_weighs_261 N w1 w3 T3
else
(if (20 : Int32) ≤ r4 then
f_L_weighs_261 N w1 w3 T3
else
zbp (f_L_all N T3) fun q8 T10 => (
(if q8 = w3 then
zbp (y_X6_setWeight T10 w5 w6) fun q12 T14 => (
zx q12 (fun _ => none) fun r15 => (
(if r15 = w7 then
f_L_weighs_262 N w1 w3 (1 : Int32) T14
else
f_L_weighs_261 N w1 w3 T14)))
else
f_L_weighs_261 N w1 w3 T10)))))))
set_option maxRecDepth 100000 in
set_option maxHeartbeats 8000000 in
theorem t_L_weighs_210 {p : Program} {l : Launch} {e : Env} {s : State} {m : MethodId} {args : Array Value} {below : List Frame} {meth : Method} {c : Code} {D : va_G} {cy : Nat → ClassId} {x0 lo : Nat} (C0 : yCx p l s m c meth args cL_weighs 11 wsM_weighs RL (some .boolean) D cy lo) (N : Nat) (hN : 10000000 ≤ N) {c0 : Nat} {w1 : Int32} {w3 : Int64} {w5 : Int32} {w6 : Int32} {w7 : Int32} {s0 : Int32} {T : yT} {r : Int32} {Tr : yT} (hc : c0 + 2206 ≤ 3330) (h : f_L_weighs_210 N w1 w3 w5 w6 w7 s0 T = some (r, Tr)) {H : Heap} {locs : List Loc} {ls : Array Slot} (hW : yWd D cy x0 lo T H) (hS : va_S (yA lo) s.heap H locs) (hl : lv_has ls 11 [(0, .ref x0), (1, .int w1), (3, .long w3), (5, .int w5), (6, .int w6), (7, .int w7)]) : W p l e (headSpec wsM_weighs ({ frames := 19, cells := 3330, slots := 26640, locals := 494 } : Room)).room s m args below meth c H locs (c0) (8 * (c0)) (MQ below (yQi D cy x0 lo r Tr) args s 3330 26640 (yA lo)) (F0 m 210 ls [.int s0]) := by
  obtain ⟨hx, hb, hr, hml, hown, hts, hlocks, hK, hE, hlo, hlt⟩ := id C0
  unfold f_L_weighs_210 at h
  refine lv_istore (lv' := [(9, .int s0), (0, .ref x0), (1, .int w1), (3, .long w3), (5, .int w5), (6, .int w6), (7, .int w7)]) hx hb dL_weighs_210 hl (by decide) rfl (fun ls hl => ?_)
  refine lv_aload_n hx hb dL_weighs_212 rfl (lv_at hl 1 rfl) ?_
  obtain ⟨q1, T3, e2, h⟩ := zbp_some h
  refine y_xcalli hS (vx_runV (As := []) (rest := []) ⟨hx, hb, hml, hown, hts⟩ (n_X6_rollBack l hlt N hN e2) (cwV 0 hts (gM_X6_rollBack wsM_up) rfl rfl rfl (by decide +kernel) ⟨Nat.le_of_ble_eq_true rfl, Nat.le_of_ble_eq_true rfl⟩) (y_preV hK hE hlo hW hS []) rfl rfl hl.1 rfl (lv_room (Nat.le_of_ble_eq_true rfl)) dL_weighs_213 ⟨by show c0 + 1 ≤ 3330; omega, by show 8 * (c0) + 6 ≤ 26640; omega⟩) (fun k hk H locs q9 ce hW hS hce hcv hcl => by subst hk; cases (show (none : Option (Int32 × yT)) = some (r, Tr) from zx_l h)) (fun r4 hk H locs hW hS => ?_)
  subst hk
  have h := zx_r h
  refine W.widen (k := c0 + 1) (n := 8 * (c0 + 1)) (by omega) (by omega) ?_
  refine lv_istore (lv' := [(10, .int r4), (9, .int s0), (0, .ref x0), (1, .int w1), (3, .long w3), (5, .int w5), (6, .int w6), (7, .int w7)]) hx hb dL_weighs_216 hl (by decide) rfl (fun ls hl => ?_)
  refine lv_iload hx hb dL_weighs_218 (lv_at hl 1 rfl) ?_
  refine lv_if_eq (tgt := 261) hx hb dL_weighs_220 (by decide) (fun c5 => ?_) (fun c5 => ?_)
  · have h := zip c5 h
    exact t_L_weighs_261 C0 N hN (c0 := c0 + 1)  (by omega) h hW hS (lv_sub hl [2, 3, 4] rfl)
  · have h := zin c5 h
    refine lv_iload hx hb dL_weighs_223 (lv_at hl 0 rfl) ?_
    refine lv_if_lt (tgt := 261) hx hb dL_weighs_225 (by decide) (fun c6 => ?_) (fun c6 => ?_)
    · have h := zip c6 h
      exact t_L_weighs_261 C0 N hN (c0 := c0 + 1)  (by omega) h hW hS (lv_sub hl [2, 3, 4] rfl)
    · have h := zin c6 h
      refine lv_iload hx hb dL_weighs_228 (lv_at hl 0 rfl) ?_
      refine lv_bipush (v := 20) hx hb dL_weighs_230 (by decide) ?_
      refine lv_icmp_ge (tgt := 261) hx hb dL_weighs_232 (by decide) (fun c7 => ?_) (fun c7 => ?_)
      · have h := zip c7 h
        exact t_L_weighs_261 C0 N hN (c0 := c0 + 1)  (by omega) h hW hS (lv_sub hl [2, 3, 4] rfl)
      · have h := zin c7 h
        refine lv_aload_n hx hb dL_weighs_235 rfl (lv_at hl 2 rfl) ?_
        obtain ⟨q8, T10, e9, h⟩ := zbp_some h
        refine y_calll hS (va_runS (As := [.ref x0]) (rest := []) ⟨hx, hb, hml, hown, hts⟩ (m_L_all l hlt N hN e9) (va_cwS 1 hts (gM_L_all wsM_up) rfl rfl rfl (by decide +kernel) ⟨Nat.le_of_ble_eq_true rfl, Nat.le_of_ble_eq_true rfl⟩) (y_preS hK hE hlo hW hS [.ref x0]) rfl rfl hl.1 rfl (lv_room (Nat.le_of_ble_eq_true rfl)) dL_weighs_236 ⟨by show c0 + 1 + 1101 ≤ 3330; omega, by show 8 * (c0 + 1) + 8808 ≤ 26640; omega⟩) (fun H locs hW hS => ?_)
        refine W.widen (k := c0 + 1102) (n := 8 * (c0 + 1102)) (by omega) (by omega) ?_
        refine lv_lload_n hx hb dL_weighs_239 rfl (lv_at hl 4 rfl) ?_
        refine z_lc_ne (tgt := 261) hx hb dL_weighs_240 dL_weighs_241 (by decide) (fun c11 => ?_) (fun c11 => ?_)
        · have h := zin c11 h
          exact t_L_weighs_261 C0 N hN (c0 := c0 + 1102)  (by omega) h hW hS (lv_sub hl [2, 3, 4] rfl)
        · have h := zip c11 h
          refine lv_aload_n hx hb dL_weighs_244 rfl (lv_at hl 2 rfl) ?_
          refine lv_iload hx hb dL_weighs_245 (lv_at hl 5 rfl) ?_
          refine lv_iload hx hb dL_weighs_247 (lv_at hl 6 rfl) ?_
          obtain ⟨q12, T14, e13, h⟩ := zbp_some h
          refine y_xcalli hS (vx_runV (As := [.int w5, .int w6]) (rest := []) ⟨hx, hb, hml, hown, hts⟩ (n_X6_setWeight l hlt N hN e13) (cwV 2 hts (gM_X6_setWeight wsM_up) rfl rfl rfl (by decide +kernel) ⟨Nat.le_of_ble_eq_true rfl, Nat.le_of_ble_eq_true rfl⟩) (y_preV hK hE hlo hW hS [.int w5, .int w6]) rfl rfl hl.1 rfl (lv_room (Nat.le_of_ble_eq_true rfl)) dL_weighs_249 ⟨by show c0 + 1102 + 2 ≤ 3330; omega, by show 8 * (c0 + 1102) + 12 ≤ 26640; omega⟩) (fun k hk H locs q9 ce hW hS hce hcv hcl => by subst hk; cases (show (none : Option (Int32 × yT)) = some (r, Tr) from zx_l h)) (fun r15 hk H locs hW hS => ?_)
          subst hk
          have h := zx_r h
          refine W.widen (k := c0 + 1104) (n := 8 * (c0 + 1104)) (by omega) (by omega) ?_
          refine lv_iload hx hb dL_weighs_252 (lv_at hl 7 rfl) ?_
          refine lv_icmp_ne (tgt := 261) hx hb dL_weighs_254 (by decide) (fun c16 => ?_) (fun c16 => ?_)
          · have h := zin c16 h
            exact t_L_weighs_261 C0 N hN (c0 := c0 + 1104)  (by omega) h hW hS (lv_sub hl [2, 3, 4] rfl)
          · have h := zip c16 h
            refine lv_iconst (v := 1) hx hb dL_weighs_257 (by decide) ?_
            refine lv_goto (tgt := 262) hx hb dL_weighs_258 (by decide) ?_
            exact t_L_weighs_262 C0 N hN (c0 := c0 + 1104)  (by omega) h hW hS (lv_sub hl [2, 3, 4] rfl)
noncomputable def f_L_weighs_209 (N : Nat) (w1 : Int32) (w3 : Int64) (w5 : Int32) (w6 : Int32) (w7 : Int32) (T : yT) : Option (Int32 × yT) :=
f_L_weighs_210 N w1 w3 w5 w6 w7 (0 : Int32) T
set_option maxRecDepth 100000 in
set_option maxHeartbeats 8000000 in
theorem t_L_weighs_209 {p : Program} {l : Launch} {e : Env} {s : State} {m : MethodId} {args : Array Value} {below : List Frame} {meth : Method} {c : Code} {D : va_G} {cy : Nat → ClassId} {x0 lo : Nat} (C0 : yCx p l s m c meth args cL_weighs 11 wsM_weighs RL (some .boolean) D cy lo) (N : Nat) (hN : 10000000 ≤ N) {c0 : Nat} {w1 : Int32} {w3 : Int64} {w5 : Int32} {w6 : Int32} {w7 : Int32} {T : yT} {r : Int32} {Tr : yT} (hc : c0 + 2206 ≤ 3330) (h : f_L_weighs_209 N w1 w3 w5 w6 w7 T = some (r, Tr)) {H : Heap} {locs : List Loc} {ls : Array Slot} (hW : yWd D cy x0 lo T H) (hS : va_S (yA lo) s.heap H locs) (hl : lv_has ls 11 [(0, .ref x0), (1, .int w1), (3, .long w3), (5, .int w5), (6, .int w6), (7, .int w7)]) : W p l e (headSpec wsM_weighs ({ frames := 19, cells := 3330, slots := 26640, locals := 494 } : Room)).room s m args below meth c H locs (c0) (8 * (c0)) (MQ below (yQi D cy x0 lo r Tr) args s 3330 26640 (yA lo)) (F0 m 209 ls []) := by
  obtain ⟨hx, hb, hr, hml, hown, hts, hlocks, hK, hE, hlo, hlt⟩ := id C0
  unfold f_L_weighs_209 at h
  refine lv_iconst (v := 0) hx hb dL_weighs_209 (by decide) ?_
  exact t_L_weighs_210 C0 N hN (c0 := c0)  (by omega) h hW hS (lv_sub hl [0, 1, 2, 3, 4, 5] rfl)
noncomputable def f_L_weighs_186 (N : Nat) (s0 : Int32) (T : yT) : Option (Int32 × yT) :=
zg (zbo s0) (
some (s0, T))
set_option maxRecDepth 100000 in
set_option maxHeartbeats 8000000 in
theorem t_L_weighs_186 {p : Program} {l : Launch} {e : Env} {s : State} {m : MethodId} {args : Array Value} {below : List Frame} {meth : Method} {c : Code} {D : va_G} {cy : Nat → ClassId} {x0 lo : Nat} (C0 : yCx p l s m c meth args cL_weighs 11 wsM_weighs RL (some .boolean) D cy lo) (N : Nat) (hN : 10000000 ≤ N) {c0 : Nat} {s0 : Int32} {T : yT} {r : Int32} {Tr : yT} (hc : c0 + 0 ≤ 3330) (h : f_L_weighs_186 N s0 T = some (r, Tr)) {H : Heap} {locs : List Loc} {ls : Array Slot} (hW : yWd D cy x0 lo T H) (hS : va_S (yA lo) s.heap H locs) (hl : lv_has ls 11 []) : W p l e (headSpec wsM_weighs ({ frames := 19, cells := 3330, slots := 26640, locals := 494 } : Room)).room s m args below meth c H locs (c0) (8 * (c0)) (MQ below (yQi D cy x0 lo r Tr) args s 3330 26640 (yA lo)) (F0 m 186 ls [.int s0]) := by
  obtain ⟨hx, hb, hr, hml, hown, hts, hlocks, hK, hE, hlo, hlt⟩ := id C0
  unfold f_L_weighs_186 at h
  obtain ⟨g1, h⟩ := zg_some h
  exact y_zret hx hb hr hlocks hW hS g1 (congrArg Prod.fst (Option.some.inj h)) (congrArg Prod.snd (Option.some.inj h)) dL_weighs_186 (by omega) (by omega)
noncomputable def f_L_weighs_185 (N : Nat) (T : yT) : Option (Int32 × yT) :=
f_L_weighs_186 N (0 : Int32) T
set_option maxRecDepth 100000 in
set_option maxHeartbeats 8000000 in
theorem t_L_weighs_185 {p : Program} {l : Launch} {e : Env} {s : State} {m : MethodId} {args : Array Value} {below : List Frame} {meth : Method} {c : Code} {D : va_G} {cy : Nat → ClassId} {x0 lo : Nat} (C0 : yCx p l s m c meth args cL_weighs 11 wsM_weighs RL (some .boolean) D cy lo) (N : Nat) (hN : 10000000 ≤ N) {c0 : Nat} {T : yT} {r : Int32} {Tr : yT} (hc : c0 + 0 ≤ 3330) (h : f_L_weighs_185 N T = some (r, Tr)) {H : Heap} {locs : List Loc} {ls : Array Slot} (hW : yWd D cy x0 lo T H) (hS : va_S (yA lo) s.heap H locs) (hl : lv_has ls 11 []) : W p l e (headSpec wsM_weighs ({ frames := 19, cells := 3330, slots := 26640, locals := 494 } : Room)).room s m args below meth c H locs (c0) (8 * (c0)) (MQ below (yQi D cy x0 lo r Tr) args s 3330 26640 (yA lo)) (F0 m 185 ls []) := by
  obtain ⟨hx, hb, hr, hml, hown, hts, hlocks, hK, hE, hlo, hlt⟩ := id C0
  unfold f_L_weighs_185 at h
  refine lv_iconst (v := 0) hx hb dL_weighs_185 (by decide) ?_
  exact t_L_weighs_186 C0 N hN (c0 := c0)  (by omega) h hW hS (lv_sub hl [] rfl)
noncomputable def f_L_weighs_172 (N : Nat) (w3 : Int64) (T : yT) : Option (Int32 × yT) :=
zbp (f_L_all N T) fun q1 T3 => (
(if q1 = w3 then
f_L_weighs_186 N (1 : Int32) T3
else
f_L_weighs_185 N T3))
set_option maxRecDepth 100000 in
set_option maxHeartbeats 8000000 in
theorem t_L_weighs_172 {p : Program} {l : Launch} {e : Env} {s : State} {m : MethodId} {args : Array Value} {below : List Frame} {meth : Method} {c : Code} {D : va_G} {cy : Nat → ClassId} {x0 lo : Nat} (C0 : yCx p l s m c meth args cL_weighs 11 wsM_weighs RL (some .boolean) D cy lo) (N : Nat) (hN : 10000000 ≤ N) {c0 : Nat} {w3 : Int64} {T : yT} {r : Int32} {Tr : yT} (hc : c0 + 1101 ≤ 3330) (h : f_L_weighs_172 N w3 T = some (r, Tr)) {H : Heap} {locs : List Loc} {ls : Array Slot} (hW : yWd D cy x0 lo T H) (hS : va_S (yA lo) s.heap H locs) (hl : lv_has ls 11 [(0, .ref x0), (3, .long w3)]) : W p l e (headSpec wsM_weighs ({ frames := 19, cells := 3330, slots := 26640, locals := 494 } : Room)).room s m args below meth c H locs (c0) (8 * (c0)) (MQ below (yQi D cy x0 lo r Tr) args s 3330 26640 (yA lo)) (F0 m 172 ls []) := by
  obtain ⟨hx, hb, hr, hml, hown, hts, hlocks, hK, hE, hlo, hlt⟩ := id C0
  unfold f_L_weighs_172 at h
  refine lv_aload_n hx hb dL_weighs_172 rfl (lv_at hl 0 rfl) ?_
  obtain ⟨q1, T3, e2, h⟩ := zbp_some h
  refine y_calll hS (va_runS (As := [.ref x0]) (rest := []) ⟨hx, hb, hml, hown, hts⟩ (m_L_all l hlt N hN e2) (va_cwS 1 hts (gM_L_all wsM_up) rfl rfl rfl (by decide +kernel) ⟨Nat.le_of_ble_eq_true rfl, Nat.le_of_ble_eq_true rfl⟩) (y_preS hK hE hlo hW hS [.ref x0]) rfl rfl hl.1 rfl (lv_room (Nat.le_of_ble_eq_true rfl)) dL_weighs_173 ⟨by show c0 + 1101 ≤ 3330; omega, by show 8 * (c0) + 8808 ≤ 26640; omega⟩) (fun H locs hW hS => ?_)
  refine W.widen (k := c0 + 1101) (n := 8 * (c0 + 1101)) (by omega) (by omega) ?_
  refine lv_lload_n hx hb dL_weighs_176 rfl (lv_at hl 1 rfl) ?_
  refine z_lc_ne (tgt := 185) hx hb dL_weighs_177 dL_weighs_178 (by decide) (fun c4 => ?_) (fun c4 => ?_)
  · have h := zin c4 h
    exact t_L_weighs_185 C0 N hN (c0 := c0 + 1101)  (by omega) h hW hS (lv_sub hl [] rfl)
  · have h := zip c4 h
    refine lv_iconst (v := 1) hx hb dL_weighs_181 (by decide) ?_
    refine lv_goto (tgt := 186) hx hb dL_weighs_182 (by decide) ?_
    exact t_L_weighs_186 C0 N hN (c0 := c0 + 1101)  (by omega) h hW hS (lv_sub hl [] rfl)
noncomputable def f_L_weighs_150 (N : Nat) (w3 : Int64) (w7 : Int32) (T : yT) : Option (Int32 × yT) :=
(if w7 = (-8001 : Int32) then
f_L_weighs_172 N w3 T
else
f_L_weighs_185 N T)
set_option maxRecDepth 100000 in
set_option maxHeartbeats 8000000 in
theorem t_L_weighs_150 {p : Program} {l : Launch} {e : Env} {s : State} {m : MethodId} {args : Array Value} {below : List Frame} {meth : Method} {c : Code} {D : va_G} {cy : Nat → ClassId} {x0 lo : Nat} (C0 : yCx p l s m c meth args cL_weighs 11 wsM_weighs RL (some .boolean) D cy lo) (N : Nat) (hN : 10000000 ≤ N) {c0 : Nat} {w3 : Int64} {w7 : Int32} {T : yT} {r : Int32} {Tr : yT} (hc : c0 + 1101 ≤ 3330) (h : f_L_weighs_150 N w3 w7 T = some (r, Tr)) {H : Heap} {locs : List Loc} {ls : Array Slot} (hW : yWd D cy x0 lo T H) (hS : va_S (yA lo) s.heap H locs) (hl : lv_has ls 11 [(0, .ref x0), (3, .long w3), (7, .int w7)]) : W p l e (headSpec wsM_weighs ({ frames := 19, cells := 3330, slots := 26640, locals := 494 } : Room)).room s m args below meth c H locs (c0) (8 * (c0)) (MQ below (yQi D cy x0 lo r Tr) args s 3330 26640 (yA lo)) (F0 m 150 ls []) := by
  obtain ⟨hx, hb, hr, hml, hown, hts, hlocks, hK, hE, hlo, hlt⟩ := id C0
  unfold f_L_weighs_150 at h
  refine lv_iload hx hb dL_weighs_150 (lv_at hl 2 rfl) ?_
  refine lv_sipush (v := -8001) hx hb dL_weighs_152 (by decide) ?_
  refine lv_icmp_ne (tgt := 185) hx hb dL_weighs_155 (by decide) (fun c1 => ?_) (fun c1 => ?_)
  · have h := zin c1 h
    exact t_L_weighs_185 C0 N hN (c0 := c0)  (by omega) h hW hS (lv_sub hl [] rfl)
  · have h := zip c1 h
    refine lv_goto (tgt := 172) hx hb dL_weighs_158 (by decide) ?_
    exact t_L_weighs_172 C0 N hN (c0 := c0)  (by omega) h hW hS (lv_sub hl [0, 1] rfl)
noncomputable def f_L_weighs_135 (N : Nat) (w3 : Int64) (w5 : Int32) (w7 : Int32) (s0 : Int32) (s1 : Int32) (T : yT) : Option (Int32 × yT) :=
(if s1 = s0 then
(if w5 < 0 then
f_L_weighs_150 N w3 w7 T
else
(if w5 ≤ (27 : Int32) then
zbp (y_X6_weight T w5) fun q4 T6 => (
zx q4 (fun _ => none) fun r7 => (
(if w7 = r7 then
f_L_weighs_172 N w3 T6
else
f_L_weighs_185 N T6)))
else
f_L_weighs_150 N w3 w7 T))
else
f_L_weighs_185 N T)
set_option maxRecDepth 100000 in
set_option maxHeartbeats 8000000 in
theorem t_L_weighs_135 {p : Program} {l : Launch} {e : Env} {s : State} {m : MethodId} {args : Array Value} {below : List Frame} {meth : Method} {c : Code} {D : va_G} {cy : Nat → ClassId} {x0 lo : Nat} (C0 : yCx p l s m c meth args cL_weighs 11 wsM_weighs RL (some .boolean) D cy lo) (N : Nat) (hN : 10000000 ≤ N) {c0 : Nat} {w3 : Int64} {w5 : Int32} {w7 : Int32} {s0 : Int32} {s1 : Int32} {T : yT} {r : Int32} {Tr : yT} (hc : c0 + 1102 ≤ 3330) (h : f_L_weighs_135 N w3 w5 w7 s0 s1 T = some (r, Tr)) {H : Heap} {locs : List Loc} {ls : Array Slot} (hW : yWd D cy x0 lo T H) (hS : va_S (yA lo) s.heap H locs) (hl : lv_has ls 11 [(0, .ref x0), (3, .long w3), (5, .int w5), (7, .int w7)]) : W p l e (headSpec wsM_weighs ({ frames := 19, cells := 3330, slots := 26640, locals := 494 } : Room)).room s m args below meth c H locs (c0) (8 * (c0)) (MQ below (yQi D cy x0 lo r Tr) args s 3330 26640 (yA lo)) (F0 m 135 ls [.int s0, .int s1]) := by
  obtain ⟨hx, hb, hr, hml, hown, hts, hlocks, hK, hE, hlo, hlt⟩ := id C0
  unfold f_L_weighs_135 at h
  refine lv_icmp_ne (tgt := 185) hx hb dL_weighs_135 (by decide) (fun c1 => ?_) (fun c1 => ?_)
  · have h := zin c1 h
    exact t_L_weighs_185 C0 N hN (c0 := c0)  (by omega) h hW hS (lv_sub hl [] rfl)
  · have h := zip c1 h
    refine lv_iload hx hb dL_weighs_138 (lv_at hl 2 rfl) ?_
    refine lv_if_lt (tgt := 150) hx hb dL_weighs_140 (by decide) (fun c2 => ?_) (fun c2 => ?_)
    · have h := zip c2 h
      exact t_L_weighs_150 C0 N hN (c0 := c0)  (by omega) h hW hS (lv_sub hl [0, 1, 3] rfl)
    · have h := zin c2 h
      refine lv_iload hx hb dL_weighs_143 (lv_at hl 2 rfl) ?_
      refine lv_bipush (v := 27) hx hb dL_weighs_145 (by decide) ?_
      refine lv_icmp_le (tgt := 161) hx hb dL_weighs_147 (by decide) (fun c3 => ?_) (fun c3 => ?_)
      · have h := zip c3 h
        refine lv_iload hx hb dL_weighs_161 (lv_at hl 3 rfl) ?_
        refine lv_aload_n hx hb dL_weighs_163 rfl (lv_at hl 0 rfl) ?_
        refine lv_iload hx hb dL_weighs_164 (lv_at hl 2 rfl) ?_
        obtain ⟨q4, T6, e5, h⟩ := zbp_some h
        refine y_xcalli hS (vx_runV (As := [.int w5]) (rest := [.int w7]) ⟨hx, hb, hml, hown, hts⟩ (n_X6_weight l hlt N hN e5) (cwV 1 hts (gM_X6_weight wsM_up) rfl rfl rfl (by decide +kernel) ⟨Nat.le_of_ble_eq_true rfl, Nat.le_of_ble_eq_true rfl⟩) (y_preV hK hE hlo hW hS [.int w5]) rfl rfl hl.1 rfl (lv_room (Nat.le_of_ble_eq_true rfl)) dL_weighs_166 ⟨by show c0 + 1 ≤ 3330; omega, by show 8 * (c0) + 6 ≤ 26640; omega⟩) (fun k hk H locs q9 ce hW hS hce hcv hcl => by subst hk; cases (show (none : Option (Int32 × yT)) = some (r, Tr) from zx_l h)) (fun r7 hk H locs hW hS => ?_)
        subst hk
        have h := zx_r h
        refine W.widen (k := c0 + 1) (n := 8 * (c0 + 1)) (by omega) (by omega) ?_
        refine lv_icmp_ne (tgt := 185) hx hb dL_weighs_169 (by decide) (fun c8 => ?_) (fun c8 => ?_)
        · have h := zin c8 h
          exact t_L_weighs_185 C0 N hN (c0 := c0 + 1)  (by omega) h hW hS (lv_sub hl [] rfl)
        · have h := zip c8 h
          exact t_L_weighs_172 C0 N hN (c0 := c0 + 1)  (by omega) h hW hS (lv_sub hl [0, 1] rfl)
      · have h := zin c3 h
        exact t_L_weighs_150 C0 N hN (c0 := c0)  (by omega) h hW hS (lv_sub hl [0, 1, 3] rfl)
noncomputable def f_L_weighs_126 (N : Nat) (w3 : Int64) (w5 : Int32) (w7 : Int32) (s0 : Int32) (T : yT) : Option (Int32 × yT) :=
f_L_weighs_135 N w3 w5 w7 (-8001 : Int32) s0 T
set_option maxRecDepth 100000 in
set_option maxHeartbeats 8000000 in
theorem t_L_weighs_126 {p : Program} {l : Launch} {e : Env} {s : State} {m : MethodId} {args : Array Value} {below : List Frame} {meth : Method} {c : Code} {D : va_G} {cy : Nat → ClassId} {x0 lo : Nat} (C0 : yCx p l s m c meth args cL_weighs 11 wsM_weighs RL (some .boolean) D cy lo) (N : Nat) (hN : 10000000 ≤ N) {c0 : Nat} {w3 : Int64} {w5 : Int32} {w7 : Int32} {s0 : Int32} {T : yT} {r : Int32} {Tr : yT} (hc : c0 + 1102 ≤ 3330) (h : f_L_weighs_126 N w3 w5 w7 s0 T = some (r, Tr)) {H : Heap} {locs : List Loc} {ls : Array Slot} (hW : yWd D cy x0 lo T H) (hS : va_S (yA lo) s.heap H locs) (hl : lv_has ls 11 [(0, .ref x0), (3, .long w3), (5, .int w5), (7, .int w7)]) : W p l e (headSpec wsM_weighs ({ frames := 19, cells := 3330, slots := 26640, locals := 494 } : Room)).room s m args below meth c H locs (c0) (8 * (c0)) (MQ below (yQi D cy x0 lo r Tr) args s 3330 26640 (yA lo)) (F0 m 126 ls [.int s0]) := by
  obtain ⟨hx, hb, hr, hml, hown, hts, hlocks, hK, hE, hlo, hlt⟩ := id C0
  unfold f_L_weighs_126 at h
  refine lv_sipush (v := -8001) hx hb dL_weighs_126 (by decide) ?_
  refine lv_goto (tgt := 135) hx hb dL_weighs_129 (by decide) ?_
  exact t_L_weighs_135 C0 N hN (c0 := c0)  (by omega) h hW hS (lv_sub hl [0, 1, 2, 3] rfl)
noncomputable def f_L_weighs_112 (N : Nat) (w3 : Int64) (w5 : Int32) (w7 : Int32) (w8 : Int32) (T : yT) : Option (Int32 × yT) :=
(if w5 < 0 then
f_L_weighs_126 N w3 w5 w7 w8 T
else
(if w5 ≤ (27 : Int32) then
f_L_weighs_135 N w3 w5 w7 (-8002 : Int32) w8 T
else
f_L_weighs_126 N w3 w5 w7 w8 T))
set_option maxRecDepth 100000 in
set_option maxHeartbeats 8000000 in
theorem t_L_weighs_112 {p : Program} {l : Launch} {e : Env} {s : State} {m : MethodId} {args : Array Value} {below : List Frame} {meth : Method} {c : Code} {D : va_G} {cy : Nat → ClassId} {x0 lo : Nat} (C0 : yCx p l s m c meth args cL_weighs 11 wsM_weighs RL (some .boolean) D cy lo) (N : Nat) (hN : 10000000 ≤ N) {c0 : Nat} {w3 : Int64} {w5 : Int32} {w7 : Int32} {w8 : Int32} {T : yT} {r : Int32} {Tr : yT} (hc : c0 + 1102 ≤ 3330) (h : f_L_weighs_112 N w3 w5 w7 w8 T = some (r, Tr)) {H : Heap} {locs : List Loc} {ls : Array Slot} (hW : yWd D cy x0 lo T H) (hS : va_S (yA lo) s.heap H locs) (hl : lv_has ls 11 [(0, .ref x0), (3, .long w3), (5, .int w5), (7, .int w7), (8, .int w8)]) : W p l e (headSpec wsM_weighs ({ frames := 19, cells := 3330, slots := 26640, locals := 494 } : Room)).room s m args below meth c H locs (c0) (8 * (c0)) (MQ below (yQi D cy x0 lo r Tr) args s 3330 26640 (yA lo)) (F0 m 112 ls []) := by
  obtain ⟨hx, hb, hr, hml, hown, hts, hlocks, hK, hE, hlo, hlt⟩ := id C0
  unfold f_L_weighs_112 at h
  refine lv_iload hx hb dL_weighs_112 (lv_at hl 4 rfl) ?_
  refine lv_iload hx hb dL_weighs_114 (lv_at hl 2 rfl) ?_
  refine lv_if_lt (tgt := 126) hx hb dL_weighs_116 (by decide) (fun c1 => ?_) (fun c1 => ?_)
  · have h := zip c1 h
    exact t_L_weighs_126 C0 N hN (c0 := c0)  (by omega) h hW hS (lv_sub hl [0, 1, 2, 3] rfl)
  · have h := zin c1 h
    refine lv_iload hx hb dL_weighs_119 (lv_at hl 2 rfl) ?_
    refine lv_bipush (v := 27) hx hb dL_weighs_121 (by decide) ?_
    refine lv_icmp_le (tgt := 132) hx hb dL_weighs_123 (by decide) (fun c2 => ?_) (fun c2 => ?_)
    · have h := zip c2 h
      refine lv_sipush (v := -8002) hx hb dL_weighs_132 (by decide) ?_
      exact t_L_weighs_135 C0 N hN (c0 := c0)  (by omega) h hW hS (lv_sub hl [0, 1, 2, 3] rfl)
    · have h := zin c2 h
      exact t_L_weighs_126 C0 N hN (c0 := c0)  (by omega) h hW hS (lv_sub hl [0, 1, 2, 3] rfl)
noncomputable def f_L_weighs_58 (N : Nat) (w1 : Int32) (w3 : Int64) (w5 : Int32) (s0 : Int32) (T : yT) : Option (Int32 × yT) :=
zbp (f_L_call N T (18 : Int32) w5 (0 : Int32) (0 : Int32) (0 : Int32)) fun q1 T3 => (
zbp (f_L_call N T3 (2 : Int32) w5 s0 (0 : Int32) (0 : Int32)) fun q4 T6 => (
(if w5 < 0 then
f_L_weighs_112 N w3 w5 q1 q4 T6
else
(if (27 : Int32) < w5 then
f_L_weighs_112 N w3 w5 q1 q4 T6
else
(if s0 < (-100 : Int32) then
f_L_weighs_112 N w3 w5 q1 q4 T6
else
(if s0 ≤ (100 : Int32) then
(if q4 = q1 then
zbp (y_X6_weight T6 w5) fun q12 T14 => (
zx q12 (fun _ => none) fun r15 => (
(if r15 = s0 then
f_L_weighs_210 N w1 w3 w5 s0 q1 (1 : Int32) T14
else
f_L_weighs_209 N w1 w3 w5 s0 q1 T14)))
else
f_L_weighs_209 N w1 w3 w5 s0 q1 T6)
else
f_L_weighs_112 N w3 w5 q1 q4 T6))))))
set_option maxRecDepth 100000 in
set_option maxHeartbeats 8000000 in
theorem t_L_weighs_58 {p : Program} {l : Launch} {e : Env} {s : State} {m : MethodId} {args : Array Value} {below : List Frame} {meth : Method} {c : Code} {D : va_G} {cy : Nat → ClassId} {x0 lo : Nat} (C0 : yCx p l s m c meth args cL_weighs 11 wsM_weighs RL (some .boolean) D cy lo) (N : Nat) (hN : 10000000 ≤ N) {c0 : Nat} {w1 : Int32} {w3 : Int64} {w5 : Int32} {s0 : Int32} {T : yT} {r : Int32} {Tr : yT} (hc : c0 + 2229 ≤ 3330) (h : f_L_weighs_58 N w1 w3 w5 s0 T = some (r, Tr)) {H : Heap} {locs : List Loc} {ls : Array Slot} (hW : yWd D cy x0 lo T H) (hS : va_S (yA lo) s.heap H locs) (hl : lv_has ls 11 [(0, .ref x0), (1, .int w1), (3, .long w3), (5, .int w5)]) : W p l e (headSpec wsM_weighs ({ frames := 19, cells := 3330, slots := 26640, locals := 494 } : Room)).room s m args below meth c H locs (c0) (8 * (c0)) (MQ below (yQi D cy x0 lo r Tr) args s 3330 26640 (yA lo)) (F0 m 58 ls [.int s0]) := by
  obtain ⟨hx, hb, hr, hml, hown, hts, hlocks, hK, hE, hlo, hlt⟩ := id C0
  unfold f_L_weighs_58 at h
  refine lv_istore (lv' := [(6, .int s0), (0, .ref x0), (1, .int w1), (3, .long w3), (5, .int w5)]) hx hb dL_weighs_58 hl (by decide) rfl (fun ls hl => ?_)
  refine lv_aload_n hx hb dL_weighs_60 rfl (lv_at hl 1 rfl) ?_
  refine lv_bipush (v := 18) hx hb dL_weighs_61 (by decide) ?_
  refine lv_iload hx hb dL_weighs_63 (lv_at hl 4 rfl) ?_
  refine lv_iconst (v := 0) hx hb dL_weighs_65 (by decide) ?_
  refine lv_iconst (v := 0) hx hb dL_weighs_66 (by decide) ?_
  refine lv_iconst (v := 0) hx hb dL_weighs_67 (by decide) ?_
  obtain ⟨q1, T3, e2, h⟩ := zbp_some h
  refine y_calli hS (vx_runSW (As := [.ref x0, .int (18 : Int32), .int w5, .int (0 : Int32), .int (0 : Int32), .int (0 : Int32)]) (rest := []) ⟨hx, hb, hml, hown, hts⟩ (m_L_call l hlt N hN e2) (vx_cwSW (hh := [(0, 11, 12, 14), (0, 11, 18, 16), (0, 11, 24, 18)]) 6 hts (gM_L_call wsM_up) rfl rfl rfl (by decide +kernel) ⟨Nat.le_of_ble_eq_true rfl, Nat.le_of_ble_eq_true rfl⟩) (y_preS hK hE hlo hW hS [.ref x0, .int (18 : Int32), .int w5, .int (0 : Int32), .int (0 : Int32), .int (0 : Int32)]) rfl rfl hl.1 rfl (lv_room (Nat.le_of_ble_eq_true rfl)) dL_weighs_68 ⟨by show c0 + 11 ≤ 3330; omega, by show 8 * (c0) + 88 ≤ 26640; omega⟩) (fun H locs hW hS => ?_)
  refine W.widen (k := c0 + 11) (n := 8 * (c0 + 11)) (by omega) (by omega) ?_
  refine lv_istore (lv' := [(7, .int q1), (6, .int s0), (0, .ref x0), (1, .int w1), (3, .long w3), (5, .int w5)]) hx hb dL_weighs_71 hl (by decide) rfl (fun ls hl => ?_)
  refine lv_aload_n hx hb dL_weighs_73 rfl (lv_at hl 2 rfl) ?_
  refine lv_iconst (v := 2) hx hb dL_weighs_74 (by decide) ?_
  refine lv_iload hx hb dL_weighs_75 (lv_at hl 5 rfl) ?_
  refine lv_iload hx hb dL_weighs_77 (lv_at hl 1 rfl) ?_
  refine lv_iconst (v := 0) hx hb dL_weighs_79 (by decide) ?_
  refine lv_iconst (v := 0) hx hb dL_weighs_80 (by decide) ?_
  obtain ⟨q4, T6, e5, h⟩ := zbp_some h
  refine y_calli hS (vx_runSW (As := [.ref x0, .int (2 : Int32), .int w5, .int s0, .int (0 : Int32), .int (0 : Int32)]) (rest := []) ⟨hx, hb, hml, hown, hts⟩ (m_L_call l hlt N hN e5) (vx_cwSW (hh := [(0, 11, 12, 14), (0, 11, 18, 16), (0, 11, 24, 18)]) 6 hts (gM_L_call wsM_up) rfl rfl rfl (by decide +kernel) ⟨Nat.le_of_ble_eq_true rfl, Nat.le_of_ble_eq_true rfl⟩) (y_preS hK hE hlo hW hS [.ref x0, .int (2 : Int32), .int w5, .int s0, .int (0 : Int32), .int (0 : Int32)]) rfl rfl hl.1 rfl (lv_room (Nat.le_of_ble_eq_true rfl)) dL_weighs_81 ⟨by show c0 + 11 + 11 ≤ 3330; omega, by show 8 * (c0 + 11) + 88 ≤ 26640; omega⟩) (fun H locs hW hS => ?_)
  refine W.widen (k := c0 + 22) (n := 8 * (c0 + 22)) (by omega) (by omega) ?_
  refine lv_istore (lv' := [(8, .int q4), (7, .int q1), (6, .int s0), (0, .ref x0), (1, .int w1), (3, .long w3), (5, .int w5)]) hx hb dL_weighs_84 hl (by decide) rfl (fun ls hl => ?_)
  refine lv_iload hx hb dL_weighs_86 (lv_at hl 6 rfl) ?_
  refine lv_if_lt (tgt := 112) hx hb dL_weighs_88 (by decide) (fun c7 => ?_) (fun c7 => ?_)
  · have h := zip c7 h
    exact t_L_weighs_112 C0 N hN (c0 := c0 + 22)  (by omega) h hW hS (lv_sub hl [3, 5, 6, 1, 0] rfl)
  · have h := zin c7 h
    refine lv_iload hx hb dL_weighs_91 (lv_at hl 6 rfl) ?_
    refine lv_bipush (v := 27) hx hb dL_weighs_93 (by decide) ?_
    refine lv_icmp_gt (tgt := 112) hx hb dL_weighs_95 (by decide) (fun c8 => ?_) (fun c8 => ?_)
    · have h := zip c8 h
      exact t_L_weighs_112 C0 N hN (c0 := c0 + 22)  (by omega) h hW hS (lv_sub hl [3, 5, 6, 1, 0] rfl)
    · have h := zin c8 h
      refine lv_iload hx hb dL_weighs_98 (lv_at hl 2 rfl) ?_
      refine lv_bipush (v := -100) hx hb dL_weighs_100 (by decide) ?_
      refine lv_icmp_lt (tgt := 112) hx hb dL_weighs_102 (by decide) (fun c9 => ?_) (fun c9 => ?_)
      · have h := zip c9 h
        exact t_L_weighs_112 C0 N hN (c0 := c0 + 22)  (by omega) h hW hS (lv_sub hl [3, 5, 6, 1, 0] rfl)
      · have h := zin c9 h
        refine lv_iload hx hb dL_weighs_105 (lv_at hl 2 rfl) ?_
        refine lv_bipush (v := 100) hx hb dL_weighs_107 (by decide) ?_
        refine lv_icmp_le (tgt := 187) hx hb dL_weighs_109 (by decide) (fun c10 => ?_) (fun c10 => ?_)
        · have h := zip c10 h
          refine lv_iload hx hb dL_weighs_187 (lv_at hl 0 rfl) ?_
          refine lv_iload hx hb dL_weighs_189 (lv_at hl 1 rfl) ?_
          refine lv_icmp_ne (tgt := 209) hx hb dL_weighs_191 (by decide) (fun c11 => ?_) (fun c11 => ?_)
          · have h := zin c11 h
            exact t_L_weighs_209 C0 N hN (c0 := c0 + 22)  (by omega) h hW hS (lv_sub hl [3, 4, 5, 6, 2, 1] rfl)
          · have h := zip c11 h
            refine lv_aload_n hx hb dL_weighs_194 rfl (lv_at hl 3 rfl) ?_
            refine lv_iload hx hb dL_weighs_195 (lv_at hl 6 rfl) ?_
            obtain ⟨q12, T14, e13, h⟩ := zbp_some h
            refine y_xcalli hS (vx_runV (As := [.int w5]) (rest := []) ⟨hx, hb, hml, hown, hts⟩ (n_X6_weight l hlt N hN e13) (cwV 1 hts (gM_X6_weight wsM_up) rfl rfl rfl (by decide +kernel) ⟨Nat.le_of_ble_eq_true rfl, Nat.le_of_ble_eq_true rfl⟩) (y_preV hK hE hlo hW hS [.int w5]) rfl rfl hl.1 rfl (lv_room (Nat.le_of_ble_eq_true rfl)) dL_weighs_197 ⟨by show c0 + 22 + 1 ≤ 3330; omega, by show 8 * (c0 + 22) + 6 ≤ 26640; omega⟩) (fun k hk H locs q9 ce hW hS hce hcv hcl => by subst hk; cases (show (none : Option (Int32 × yT)) = some (r, Tr) from zx_l h)) (fun r15 hk H locs hW hS => ?_)
            subst hk
            have h := zx_r h
            refine W.widen (k := c0 + 23) (n := 8 * (c0 + 23)) (by omega) (by omega) ?_
            refine lv_iload hx hb dL_weighs_200 (lv_at hl 2 rfl) ?_
            refine lv_icmp_ne (tgt := 209) hx hb dL_weighs_202 (by decide) (fun c16 => ?_) (fun c16 => ?_)
            · have h := zin c16 h
              exact t_L_weighs_209 C0 N hN (c0 := c0 + 23)  (by omega) h hW hS (lv_sub hl [3, 4, 5, 6, 2, 1] rfl)
            · have h := zip c16 h
              refine lv_iconst (v := 1) hx hb dL_weighs_205 (by decide) ?_
              refine lv_goto (tgt := 210) hx hb dL_weighs_206 (by decide) ?_
              exact t_L_weighs_210 C0 N hN (c0 := c0 + 23)  (by omega) h hW hS (lv_sub hl [3, 4, 5, 6, 2, 1] rfl)
        · have h := zin c10 h
          exact t_L_weighs_112 C0 N hN (c0 := c0 + 22)  (by omega) h hW hS (lv_sub hl [3, 5, 6, 1, 0] rfl)
noncomputable def f_L_weighs_26 (N : Nat) (w1 : Int32) (w2 : Int32) (w3 : Int64) (s0 : Int32) (T : yT) : Option (Int32 × yT) :=
(if w2 = 0 then
(f_L_some N (w1 >>> ((5 : Int32) &&& 31)) (41 : Int32)).bind fun q2 => (
f_L_weighs_58 N w1 w3 s0 (q2 - (20 : Int32)) T)
else
(f_L_some N (w1 >>> ((5 : Int32) &&& 31)) (210 : Int32)).bind fun q4 => (
f_L_weighs_58 N w1 w3 s0 (q4 - (105 : Int32)) T))
set_option maxRecDepth 100000 in
set_option maxHeartbeats 8000000 in
theorem t_L_weighs_26 {p : Program} {l : Launch} {e : Env} {s : State} {m : MethodId} {args : Array Value} {below : List Frame} {meth : Method} {c : Code} {D : va_G} {cy : Nat → ClassId} {x0 lo : Nat} (C0 : yCx p l s m c meth args cL_weighs 11 wsM_weighs RL (some .boolean) D cy lo) (N : Nat) (hN : 10000000 ≤ N) {c0 : Nat} {w1 : Int32} {w2 : Int32} {w3 : Int64} {s0 : Int32} {T : yT} {r : Int32} {Tr : yT} (hc : c0 + 2229 ≤ 3330) (h : f_L_weighs_26 N w1 w2 w3 s0 T = some (r, Tr)) {H : Heap} {locs : List Loc} {ls : Array Slot} (hW : yWd D cy x0 lo T H) (hS : va_S (yA lo) s.heap H locs) (hl : lv_has ls 11 [(0, .ref x0), (1, .int w1), (2, .int w2), (3, .long w3)]) : W p l e (headSpec wsM_weighs ({ frames := 19, cells := 3330, slots := 26640, locals := 494 } : Room)).room s m args below meth c H locs (c0) (8 * (c0)) (MQ below (yQi D cy x0 lo r Tr) args s 3330 26640 (yA lo)) (F0 m 26 ls [.int s0]) := by
  obtain ⟨hx, hb, hr, hml, hown, hts, hlocks, hK, hE, hlo, hlt⟩ := id C0
  unfold f_L_weighs_26 at h
  refine lv_istore (lv' := [(5, .int s0), (0, .ref x0), (1, .int w1), (2, .int w2), (3, .long w3)]) hx hb dL_weighs_26 hl (by decide) rfl (fun ls hl => ?_)
  refine lv_iload_n hx hb dL_weighs_28 rfl (lv_at hl 3 rfl) ?_
  refine lv_if_eq (tgt := 47) hx hb dL_weighs_29 (by decide) (fun c1 => ?_) (fun c1 => ?_)
  · have h := zip c1 h
    refine lv_iload_n hx hb dL_weighs_47 rfl (lv_at hl 2 rfl) ?_
    refine lv_iconst (v := 5) hx hb dL_weighs_48 (by decide) ?_
    refine lv_ishr hx hb dL_weighs_49 ?_
    refine lv_bipush (v := 41) hx hb dL_weighs_50 (by decide) ?_
    obtain ⟨q2, e3, h⟩ := zb_some h
    refine y_calli hS (va_runS (As := [.int (w1 >>> ((5 : Int32) &&& 31)), .int (41 : Int32)]) (rest := []) ⟨hx, hb, hml, hown, hts⟩ (m_L_some l hlt N hN (T := T) e3) (va_cwS 2 hts (gM_L_some wsM_up) rfl rfl rfl (by decide +kernel) ⟨Nat.le_of_ble_eq_true rfl, Nat.le_of_ble_eq_true rfl⟩) (y_preS hK hE hlo hW hS [.int (w1 >>> ((5 : Int32) &&& 31)), .int (41 : Int32)]) rfl rfl hl.1 rfl (lv_room (Nat.le_of_ble_eq_true rfl)) dL_weighs_52 ⟨by show c0 + 0 ≤ 3330; omega, by show 8 * (c0) + 0 ≤ 26640; omega⟩) (fun H locs hW hS => ?_)
    refine lv_bipush (v := 20) hx hb dL_weighs_55 (by decide) ?_
    refine lv_isub hx hb dL_weighs_57 ?_
    exact t_L_weighs_58 C0 N hN (c0 := c0)  (by omega) h hW hS (lv_sub hl [1, 2, 4, 0] rfl)
  · have h := zin c1 h
    refine lv_iload_n hx hb dL_weighs_32 rfl (lv_at hl 2 rfl) ?_
    refine lv_iconst (v := 5) hx hb dL_weighs_33 (by decide) ?_
    refine lv_ishr hx hb dL_weighs_34 ?_
    refine lv_sipush (v := 210) hx hb dL_weighs_35 (by decide) ?_
    obtain ⟨q4, e5, h⟩ := zb_some h
    refine y_calli hS (va_runS (As := [.int (w1 >>> ((5 : Int32) &&& 31)), .int (210 : Int32)]) (rest := []) ⟨hx, hb, hml, hown, hts⟩ (m_L_some l hlt N hN (T := T) e5) (va_cwS 2 hts (gM_L_some wsM_up) rfl rfl rfl (by decide +kernel) ⟨Nat.le_of_ble_eq_true rfl, Nat.le_of_ble_eq_true rfl⟩) (y_preS hK hE hlo hW hS [.int (w1 >>> ((5 : Int32) &&& 31)), .int (210 : Int32)]) rfl rfl hl.1 rfl (lv_room (Nat.le_of_ble_eq_true rfl)) dL_weighs_38 ⟨by show c0 + 0 ≤ 3330; omega, by show 8 * (c0) + 0 ≤ 26640; omega⟩) (fun H locs hW hS => ?_)
    refine lv_bipush (v := 105) hx hb dL_weighs_41 (by decide) ?_
    refine lv_isub hx hb dL_weighs_43 ?_
    refine lv_goto (tgt := 58) hx hb dL_weighs_44 (by decide) ?_
    exact t_L_weighs_58 C0 N hN (c0 := c0)  (by omega) h hW hS (lv_sub hl [1, 2, 4, 0] rfl)
noncomputable def f_L_weighs_0 (N : Nat) (w1 : Int32) (w2 : Int32) (T : yT) : Option (Int32 × yT) :=
zbp (f_L_all N T) fun q1 T3 => (
(if w2 = 0 then
(f_L_some N w1 (28 : Int32)).bind fun q5 => (
f_L_weighs_26 N w1 w2 q1 q5 T3)
else
(f_L_some N w1 (32 : Int32)).bind fun q7 => (
f_L_weighs_26 N w1 w2 q1 (q7 - (2 : Int32)) T3)))
set_option maxRecDepth 100000 in
set_option maxHeartbeats 8000000 in
theorem t_L_weighs_0 {p : Program} {l : Launch} {e : Env} {s : State} {m : MethodId} {args : Array Value} {below : List Frame} {meth : Method} {c : Code} {D : va_G} {cy : Nat → ClassId} {x0 lo : Nat} (C0 : yCx p l s m c meth args cL_weighs 11 wsM_weighs RL (some .boolean) D cy lo) (N : Nat) (hN : 10000000 ≤ N) {c0 : Nat} {w1 : Int32} {w2 : Int32} {T : yT} {r : Int32} {Tr : yT} (hc : c0 + 3330 ≤ 3330) (h : f_L_weighs_0 N w1 w2 T = some (r, Tr)) {H : Heap} {locs : List Loc} {ls : Array Slot} (hW : yWd D cy x0 lo T H) (hS : va_S (yA lo) s.heap H locs) (hl : lv_has ls 11 [(0, .ref x0), (1, .int w1), (2, .int w2)]) : W p l e (headSpec wsM_weighs ({ frames := 19, cells := 3330, slots := 26640, locals := 494 } : Room)).room s m args below meth c H locs (c0) (8 * (c0)) (MQ below (yQi D cy x0 lo r Tr) args s 3330 26640 (yA lo)) (F0 m 0 ls []) := by
  obtain ⟨hx, hb, hr, hml, hown, hts, hlocks, hK, hE, hlo, hlt⟩ := id C0
  unfold f_L_weighs_0 at h
  refine lv_aload_n hx hb dL_weighs_0 rfl (lv_at hl 0 rfl) ?_
  obtain ⟨q1, T3, e2, h⟩ := zbp_some h
  refine y_calll hS (va_runS (As := [.ref x0]) (rest := []) ⟨hx, hb, hml, hown, hts⟩ (m_L_all l hlt N hN e2) (va_cwS 1 hts (gM_L_all wsM_up) rfl rfl rfl (by decide +kernel) ⟨Nat.le_of_ble_eq_true rfl, Nat.le_of_ble_eq_true rfl⟩) (y_preS hK hE hlo hW hS [.ref x0]) rfl rfl hl.1 rfl (lv_room (Nat.le_of_ble_eq_true rfl)) dL_weighs_1 ⟨by show c0 + 1101 ≤ 3330; omega, by show 8 * (c0) + 8808 ≤ 26640; omega⟩) (fun H locs hW hS => ?_)
  refine W.widen (k := c0 + 1101) (n := 8 * (c0 + 1101)) (by omega) (by omega) ?_
  refine lv_lstore_n (lv' := [(3, .long q1), (0, .ref x0), (1, .int w1), (2, .int w2)]) hx hb dL_weighs_4 rfl hl (by decide) rfl (fun ls hl => ?_)
  refine lv_iload_n hx hb dL_weighs_5 rfl (lv_at hl 3 rfl) ?_
  refine lv_if_eq (tgt := 20) hx hb dL_weighs_6 (by decide) (fun c4 => ?_) (fun c4 => ?_)
  · have h := zip c4 h
    refine lv_iload_n hx hb dL_weighs_20 rfl (lv_at hl 2 rfl) ?_
    refine lv_bipush (v := 28) hx hb dL_weighs_21 (by decide) ?_
    obtain ⟨q5, e6, h⟩ := zb_some h
    refine y_calli hS (va_runS (As := [.int w1, .int (28 : Int32)]) (rest := []) ⟨hx, hb, hml, hown, hts⟩ (m_L_some l hlt N hN (T := T3) e6) (va_cwS 2 hts (gM_L_some wsM_up) rfl rfl rfl (by decide +kernel) ⟨Nat.le_of_ble_eq_true rfl, Nat.le_of_ble_eq_true rfl⟩) (y_preS hK hE hlo hW hS [.int w1, .int (28 : Int32)]) rfl rfl hl.1 rfl (lv_room (Nat.le_of_ble_eq_true rfl)) dL_weighs_23 ⟨by show c0 + 1101 + 0 ≤ 3330; omega, by show 8 * (c0 + 1101) + 0 ≤ 26640; omega⟩) (fun H locs hW hS => ?_)
    exact t_L_weighs_26 C0 N hN (c0 := c0 + 1101)  (by omega) h hW hS (lv_sub hl [1, 2, 3, 0] rfl)
  · have h := zin c4 h
    refine lv_iload_n hx hb dL_weighs_9 rfl (lv_at hl 2 rfl) ?_
    refine lv_bipush (v := 32) hx hb dL_weighs_10 (by decide) ?_
    obtain ⟨q7, e8, h⟩ := zb_some h
    refine y_calli hS (va_runS (As := [.int w1, .int (32 : Int32)]) (rest := []) ⟨hx, hb, hml, hown, hts⟩ (m_L_some l hlt N hN (T := T3) e8) (va_cwS 2 hts (gM_L_some wsM_up) rfl rfl rfl (by decide +kernel) ⟨Nat.le_of_ble_eq_true rfl, Nat.le_of_ble_eq_true rfl⟩) (y_preS hK hE hlo hW hS [.int w1, .int (32 : Int32)]) rfl rfl hl.1 rfl (lv_room (Nat.le_of_ble_eq_true rfl)) dL_weighs_12 ⟨by show c0 + 1101 + 0 ≤ 3330; omega, by show 8 * (c0 + 1101) + 0 ≤ 26640; omega⟩) (fun H locs hW hS => ?_)
    refine lv_iconst (v := 2) hx hb dL_weighs_15 (by decide) ?_
    refine lv_isub hx hb dL_weighs_16 ?_
    refine lv_goto (tgt := 26) hx hb dL_weighs_17 (by decide) ?_
    exact t_L_weighs_26 C0 N hN (c0 := c0 + 1101)  (by omega) h hW hS (lv_sub hl [1, 2, 3, 0] rfl)
noncomputable def f_L_weighs (N : Nat) (T : yT) (a1 : Int32) (a2 : Int32) : Option (Int32 × yT) := f_L_weighs_0 N a1 a2 T
set_option maxRecDepth 100000 in
set_option maxHeartbeats 8000000 in
theorem m_L_weighs (l : Launch) (hlt : l.stackTraces = false) (N : Nat) (hN : 10000000 ≤ N) {D : va_G} {cy : Nat → ClassId} {x0 lo : Nat} {T : yT} {a1 : Int32} {a2 : Int32} {r : Int32} {Tr : yT} (h : f_L_weighs N T a1 a2 = some (r, Tr)) : Met l yL_weighs wsM_weighs ({ frames := 19, cells := 3330, slots := 26640, locals := 494 } : Room) (yPre D cy x0 lo [.ref x0, .int a1, .int a2] T) (yQi D cy x0 lo r Tr) 3330 26640 (yA lo) :=
  y_entry hlt (av := [.ref x0, .int a1, .int a2]) (by decide) rfl rfl (Nat.le_of_ble_eq_true rfl) (fun p e s m args below meth c C0 H locs ls hW hS hl => t_L_weighs_0 C0 N hN (c0 := 0) (by decide) h hW hS (lv_sub hl [0, 1, 2] rfl))

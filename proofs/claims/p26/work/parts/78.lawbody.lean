/-! The law's body (by program: wip/p26/gen/geny.py). -/
noncomputable def f_L_law_419 (N : Nat) (xc : Int32 → Option Int32) (s0 : Int32) (T : yT) : Option (Int32 × yT) :=
some (s0, T)
set_option maxRecDepth 100000 in
set_option maxHeartbeats 8000000 in
theorem t_L_law_419 {p : Program} {l : Launch} {e : Env} {s : State} {m : MethodId} {below : List Frame} {meth : Method} {c : Code} {D : va_G} {cy : Nat → ClassId} {x0 lo zb Lx : Nat} {xs : Nat → Int32} (C0 : yCx p l s m c meth #[Value.ref zb] cL_law 8 wsL_law RL (some .boolean) D cy lo) (N : Nat) (hN : 10000000 ≤ N) {xc : Int32 → Option Int32} {r : Int32} (hX : va_X zb Lx xs s s.heap) (hbl : zb < lo) (hLx : Lx ≤ 260) (hsz : s.heap.size ≤ lo) (hrr : r = 1) (hxc : xc = y_cell Lx xs) {c0 : Nat} {s0 : Int32} {T : yT} {Tr : yT} (hc : c0 + 0 ≤ 560000) (h : f_L_law_419 N xc s0 T = some (r, Tr)) {H : Heap} {locs : List Loc} {ls : Array Slot} (hW : yWd D cy x0 lo T H) (hS : va_S (yA lo) s.heap H locs) (hl : lv_has ls 8 []) : W p l e room_1 s m #[Value.ref zb] below meth c H locs (c0) (20000 + 8 * (c0)) (lw_Z below #[Value.ref zb] s) (F0 m 419 ls [.int s0]) := by
  obtain ⟨hx, hb, hr, hml, hown, hts, hlocks, hK, hE, hlo, hlt⟩ := id C0
  have hbA : ¬ yA lo zb := fun q => absurd q (Nat.not_le.mpr hbl)
  have hbs : zb < s.heap.size := Nat.lt_of_lt_of_le hbl hlo
  unfold f_L_law_419 at h
  have hv : s0 = 1 := (congrArg Prod.fst (Option.some.inj h)).trans hrr
  rw [hv]
  refine va_forget (fun q hq => Nat.le_trans hsz (hS.2.2 q hq)) ?_
  refine W.widen (k := 600104) (n := 7301314) (by omega) (by omega) ?_
  exact W.base (lw_ret (Drawn.sameBut.refl s.drawn lw_cs) hx hb hr hlocks dL_law_419)
noncomputable def f_L_law_418 (N : Nat) (xc : Int32 → Option Int32) (T : yT) : Option (Int32 × yT) :=
f_L_law_419 N xc (0 : Int32) T
set_option maxRecDepth 100000 in
set_option maxHeartbeats 8000000 in
theorem t_L_law_418 {p : Program} {l : Launch} {e : Env} {s : State} {m : MethodId} {below : List Frame} {meth : Method} {c : Code} {D : va_G} {cy : Nat → ClassId} {x0 lo zb Lx : Nat} {xs : Nat → Int32} (C0 : yCx p l s m c meth #[Value.ref zb] cL_law 8 wsL_law RL (some .boolean) D cy lo) (N : Nat) (hN : 10000000 ≤ N) {xc : Int32 → Option Int32} {r : Int32} (hX : va_X zb Lx xs s s.heap) (hbl : zb < lo) (hLx : Lx ≤ 260) (hsz : s.heap.size ≤ lo) (hrr : r = 1) (hxc : xc = y_cell Lx xs) {c0 : Nat} {T : yT} {Tr : yT} (hc : c0 + 0 ≤ 560000) (h : f_L_law_418 N xc T = some (r, Tr)) {H : Heap} {locs : List Loc} {ls : Array Slot} (hW : yWd D cy x0 lo T H) (hS : va_S (yA lo) s.heap H locs) (hl : lv_has ls 8 []) : W p l e room_1 s m #[Value.ref zb] below meth c H locs (c0) (20000 + 8 * (c0)) (lw_Z below #[Value.ref zb] s) (F0 m 418 ls []) := by
  obtain ⟨hx, hb, hr, hml, hown, hts, hlocks, hK, hE, hlo, hlt⟩ := id C0
  have hbA : ¬ yA lo zb := fun q => absurd q (Nat.not_le.mpr hbl)
  have hbs : zb < s.heap.size := Nat.lt_of_lt_of_le hbl hlo
  unfold f_L_law_418 at h
  refine lv_iconst (v := 0) hx hb dL_law_418 (by decide) ?_
  exact t_L_law_419 C0 N hN hX hbl hLx hsz hrr hxc (c0 := c0)  (by omega) h hW hS (lv_sub hl [] rfl)
noncomputable def f_L_law_388 (N : Nat) (xc : Int32 → Option Int32) (w2 : Int32) (w3 : Int32) (T : yT) : Option (Int32 × yT) :=
(if w2 = 0 then
f_L_law_418 N xc T
else
(if (20 : Int32) ≤ w3 then
f_L_law_418 N xc T
else
zbp (f_L_call N T (6 : Int32) (0 : Int32) (0 : Int32) (0 : Int32) (0 : Int32)) fun q3 T5 => (
(if q3 = (-8003 : Int32) then
f_L_law_419 N xc (1 : Int32) T5
else
f_L_law_418 N xc T5))))
set_option maxRecDepth 100000 in
set_option maxHeartbeats 8000000 in
theorem t_L_law_388 {p : Program} {l : Launch} {e : Env} {s : State} {m : MethodId} {below : List Frame} {meth : Method} {c : Code} {D : va_G} {cy : Nat → ClassId} {x0 lo zb Lx : Nat} {xs : Nat → Int32} (C0 : yCx p l s m c meth #[Value.ref zb] cL_law 8 wsL_law RL (some .boolean) D cy lo) (N : Nat) (hN : 10000000 ≤ N) {xc : Int32 → Option Int32} {r : Int32} (hX : va_X zb Lx xs s s.heap) (hbl : zb < lo) (hLx : Lx ≤ 260) (hsz : s.heap.size ≤ lo) (hrr : r = 1) (hxc : xc = y_cell Lx xs) {c0 : Nat} {w2 : Int32} {w3 : Int32} {T : yT} {Tr : yT} (hc : c0 + 11 ≤ 560000) (h : f_L_law_388 N xc w2 w3 T = some (r, Tr)) {H : Heap} {locs : List Loc} {ls : Array Slot} (hW : yWd D cy x0 lo T H) (hS : va_S (yA lo) s.heap H locs) (hl : lv_has ls 8 [(1, .ref x0), (2, .int w2), (3, .int w3)]) : W p l e room_1 s m #[Value.ref zb] below meth c H locs (c0) (20000 + 8 * (c0)) (lw_Z below #[Value.ref zb] s) (F0 m 388 ls []) := by
  obtain ⟨hx, hb, hr, hml, hown, hts, hlocks, hK, hE, hlo, hlt⟩ := id C0
  have hbA : ¬ yA lo zb := fun q => absurd q (Nat.not_le.mpr hbl)
  have hbs : zb < s.heap.size := Nat.lt_of_lt_of_le hbl hlo
  unfold f_L_law_388 at h
  refine lv_iload_n hx hb dL_law_388 rfl (lv_at hl 1 rfl) ?_
  refine lv_if_eq (tgt := 418) hx hb dL_law_389 (by decide) (fun c1 => ?_) (fun c1 => ?_)
  · have h := zip c1 h
    exact t_L_law_418 C0 N hN hX hbl hLx hsz hrr hxc (c0 := c0)  (by omega) h hW hS (lv_sub hl [] rfl)
  · have h := zin c1 h
    refine lv_iload_n hx hb dL_law_392 rfl (lv_at hl 2 rfl) ?_
    refine lv_bipush (v := 20) hx hb dL_law_393 (by decide) ?_
    refine lv_icmp_ge (tgt := 418) hx hb dL_law_395 (by decide) (fun c2 => ?_) (fun c2 => ?_)
    · have h := zip c2 h
      exact t_L_law_418 C0 N hN hX hbl hLx hsz hrr hxc (c0 := c0)  (by omega) h hW hS (lv_sub hl [] rfl)
    · have h := zin c2 h
      refine lv_aload_n hx hb dL_law_398 rfl (lv_at hl 0 rfl) ?_
      refine lv_bipush (v := 6) hx hb dL_law_399 (by decide) ?_
      refine lv_iconst (v := 0) hx hb dL_law_401 (by decide) ?_
      refine lv_iconst (v := 0) hx hb dL_law_402 (by decide) ?_
      refine lv_iconst (v := 0) hx hb dL_law_403 (by decide) ?_
      refine lv_iconst (v := 0) hx hb dL_law_404 (by decide) ?_
      obtain ⟨q3, T5, e4, h⟩ := zbp_some h
      refine y_calli hS (vx_runSW (As := [.ref x0, .int (6 : Int32), .int (0 : Int32), .int (0 : Int32), .int (0 : Int32), .int (0 : Int32)]) (rest := []) ⟨hx, hb, hml, hown, hts⟩ (m_L_call l hlt N hN e4) (vx_cwSW (hh := [(0, 11, 12, 14), (0, 11, 18, 16), (0, 11, 24, 18)]) 6 hts (gM_L_call wsM_id) rfl rfl rfl (by decide +kernel) ⟨Nat.le_of_ble_eq_true rfl, Nat.le_of_ble_eq_true rfl⟩) (y_preS hK hE hlo hW hS [.ref x0, .int (6 : Int32), .int (0 : Int32), .int (0 : Int32), .int (0 : Int32), .int (0 : Int32)]) rfl rfl hl.1 rfl (lv_room (Nat.le_of_ble_eq_true rfl)) dL_law_405 ⟨by show c0 + 11 ≤ 600104; omega, by show 20000 + 8 * (c0) + 88 ≤ 7301314; omega⟩) (fun H locs hW hS => ?_)
      refine W.widen (k := c0 + 11) (n := 20000 + 8 * (c0 + 11)) (by omega) (by omega) ?_
      refine lv_sipush (v := -8003) hx hb dL_law_408 (by decide) ?_
      refine lv_icmp_ne (tgt := 418) hx hb dL_law_411 (by decide) (fun c6 => ?_) (fun c6 => ?_)
      · have h := zin c6 h
        exact t_L_law_418 C0 N hN hX hbl hLx hsz hrr hxc (c0 := c0 + 11)  (by omega) h hW hS (lv_sub hl [] rfl)
      · have h := zip c6 h
        refine lv_iconst (v := 1) hx hb dL_law_414 (by decide) ?_
        refine lv_goto (tgt := 419) hx hb dL_law_415 (by decide) ?_
        exact t_L_law_419 C0 N hN hX hbl hLx hsz hrr hxc (c0 := c0 + 11)  (by omega) h hW hS (lv_sub hl [] rfl)
noncomputable def f_L_law_381 (N : Nat) (xc : Int32 → Option Int32) (kh356 : Int32 → Int32 → Int32 → yT → Option (Int32 × yT)) (w3 : Int32) (w4 : Int32) (s0 : Int32) (T : yT) : Option (Int32 × yT) :=
kh356 s0 w3 (w4 + (-1)) T
set_option maxRecDepth 100000 in
set_option maxHeartbeats 8000000 in
theorem t_L_law_381 {p : Program} {l : Launch} {e : Env} {s : State} {m : MethodId} {below : List Frame} {meth : Method} {c : Code} {D : va_G} {cy : Nat → ClassId} {x0 lo zb Lx : Nat} {xs : Nat → Int32} (C0 : yCx p l s m c meth #[Value.ref zb] cL_law 8 wsL_law RL (some .boolean) D cy lo) (N : Nat) (hN : 10000000 ≤ N) {xc : Int32 → Option Int32} {r : Int32} (hX : va_X zb Lx xs s s.heap) (hbl : zb < lo) (hLx : Lx ≤ 260) (hsz : s.heap.size ≤ lo) (hrr : r = 1) (hxc : xc = y_cell Lx xs) {kh356 : Int32 → Int32 → Int32 → yT → Option (Int32 × yT)} {ch356 : Nat} {c0 : Nat} {w3 : Int32} {w4 : Int32} {s0 : Int32} {T : yT} {Tr : yT} (hm356 : ch356 ≤ 560000) (hk356 : ∀ {y2 : Int32} {y3 : Int32} {y4 : Int32} {T : yT}, kh356 y2 y3 y4 T = some (r, Tr) → ∀ {H : Heap} {locs : List Loc} {ls : Array Slot}, yWd D cy x0 lo T H → va_S (yA lo) s.heap H locs → lv_has ls 8 [(1, .ref x0), (2, .int y2), (3, .int y3), (4, .int y4)] → W p l e room_1 s m #[Value.ref zb] below meth c H locs (ch356) (20000 + 8 * (ch356)) (lw_Z below #[Value.ref zb] s) (F0 m 356 ls [])) (hc : c0 + 0 ≤ 560000) (he356 : c0 + 0 ≤ ch356) (h : f_L_law_381 N xc kh356 w3 w4 s0 T = some (r, Tr)) {H : Heap} {locs : List Loc} {ls : Array Slot} (hW : yWd D cy x0 lo T H) (hS : va_S (yA lo) s.heap H locs) (hl : lv_has ls 8 [(1, .ref x0), (3, .int w3), (4, .int w4)]) : W p l e room_1 s m #[Value.ref zb] below meth c H locs (c0) (20000 + 8 * (c0)) (lw_Z below #[Value.ref zb] s) (F0 m 381 ls [.int s0]) := by
  obtain ⟨hx, hb, hr, hml, hown, hts, hlocks, hK, hE, hlo, hlt⟩ := id C0
  have hbA : ¬ yA lo zb := fun q => absurd q (Nat.not_le.mpr hbl)
  have hbs : zb < s.heap.size := Nat.lt_of_lt_of_le hbl hlo
  unfold f_L_law_381 at h
  refine lv_istore_n (lv' := [(2, .int s0), (1, .ref x0), (3, .int w3), (4, .int w4)]) hx hb dL_law_381 rfl hl (by decide) rfl (fun ls hl => ?_)
  refine lv_iinc (k := 3) (v := (w4 + (-1))) (lv' := [(4, .int (w4 + (-1))), (2, .int s0), (1, .ref x0), (3, .int w3)]) hx hb dL_law_382 hl rfl (by rw [show Int32.ofInt (-1) = (-1 : Int32) from by decide]) (by decide) rfl (fun ls hl => ?_)
  refine lv_goto (tgt := 356) hx hb dL_law_385 (by decide) ?_
  refine W.widen (k := ch356) (n := 20000 + 8 * ch356) (by omega) (by omega) ?_
  exact hk356 h hW hS (lv_sub hl [2, 1, 3, 0] rfl)
noncomputable def f_L_law_356 (N : Nat) (xc : Int32 → Option Int32) : Nat → Int32 → Int32 → Int32 → yT → Option (Int32 × yT)
  | 0, _, _, _, _ => none
  | n + 1, w2, w3, w4, T =>
    (if w4 ≤ 0 then
    f_L_law_388 N xc w2 w3 T
    else
    (if w2 = 0 then
    f_L_law_388 N xc w2 w3 T
    else
    zbp (y_X6_rollBack T) fun q3 T5 => (
    zx q3 (fun _ => none) fun r6 => (
    (if r6 = (w4 - (1 : Int32)) then
    f_L_law_381 N xc (fun y2 y3 y4 T => f_L_law_356 N xc n y2 y3 y4 T) w3 w4 (1 : Int32) T5
    else
    f_L_law_381 N xc (fun y2 y3 y4 T => f_L_law_356 N xc n y2 y3 y4 T) w3 w4 (0 : Int32) T5)))))
set_option maxRecDepth 100000 in
set_option maxHeartbeats 8000000 in
theorem t_L_law_356 {p : Program} {l : Launch} {e : Env} {s : State} {m : MethodId} {below : List Frame} {meth : Method} {c : Code} {D : va_G} {cy : Nat → ClassId} {x0 lo zb Lx : Nat} {xs : Nat → Int32} (C0 : yCx p l s m c meth #[Value.ref zb] cL_law 8 wsL_law RL (some .boolean) D cy lo) (N : Nat) (hN : 10000000 ≤ N) {xc : Int32 → Option Int32} {r : Int32} (hX : va_X zb Lx xs s s.heap) (hbl : zb < lo) (hLx : Lx ≤ 260) (hsz : s.heap.size ≤ lo) (hrr : r = 1) (hxc : xc = y_cell Lx xs) {Tr : yT} : ∀ (n c0 : Nat) {w2 : Int32} {w3 : Int32} {w4 : Int32} {T : yT}, c0 + n * 1 + 11 ≤ 560000 → f_L_law_356 N xc n w2 w3 w4 T = some (r, Tr) → ∀ {H : Heap} {locs : List Loc} {ls : Array Slot}, yWd D cy x0 lo T H → va_S (yA lo) s.heap H locs → lv_has ls 8 [(1, .ref x0), (2, .int w2), (3, .int w3), (4, .int w4)] → W p l e room_1 s m #[Value.ref zb] below meth c H locs (c0) (20000 + 8 * (c0)) (lw_Z below #[Value.ref zb] s) (F0 m 356 ls []) := by
  obtain ⟨hx, hb, hr, hml, hown, hts, hlocks, hK, hE, hlo, hlt⟩ := id C0
  have hbA : ¬ yA lo zb := fun q => absurd q (Nat.not_le.mpr hbl)
  have hbs : zb < s.heap.size := Nat.lt_of_lt_of_le hbl hlo
  intro n
  induction n with
  | zero =>
    intro c0 w2 w3 w4 T hc h
    cases (show (none : Option (Int32 × yT)) = some (r, Tr) from h)
  | succ n ih =>
    intro c0 w2 w3 w4 T hc h H locs ls hW hS hl
    rw [f_L_law_356] at h
    refine lv_iload hx hb dL_law_356 (lv_at hl 3 rfl) ?_
    refine lv_if_le (tgt := 388) hx hb dL_law_358 (by decide) (fun c1 => ?_) (fun c1 => ?_)
    · have h := zip c1 h
      exact t_L_law_388 C0 N hN hX hbl hLx hsz hrr hxc (c0 := c0)  (by omega) h hW hS (lv_sub hl [0, 1, 2] rfl)
    · have h := zin c1 h
      refine lv_iload_n hx hb dL_law_361 rfl (lv_at hl 1 rfl) ?_
      refine lv_if_eq (tgt := 388) hx hb dL_law_362 (by decide) (fun c2 => ?_) (fun c2 => ?_)
      · have h := zip c2 h
        exact t_L_law_388 C0 N hN hX hbl hLx hsz hrr hxc (c0 := c0)  (by omega) h hW hS (lv_sub hl [0, 1, 2] rfl)
      · have h := zin c2 h
        refine lv_aload_n hx hb dL_law_365 rfl (lv_at hl 0 rfl) ?_
        obtain ⟨q3, T5, e4, h⟩ := zbp_some h
        refine y_xcalli hS (vx_runV (As := []) (rest := []) ⟨hx, hb, hml, hown, hts⟩ (n_X6_rollBack l hlt N hN e4) (cwV 0 hts (gM_X6_rollBack wsM_id) rfl rfl rfl (by decide +kernel) ⟨Nat.le_of_ble_eq_true rfl, Nat.le_of_ble_eq_true rfl⟩) (y_preV hK hE hlo hW hS []) rfl rfl hl.1 rfl (lv_room (Nat.le_of_ble_eq_true rfl)) dL_law_366 ⟨by show c0 + 1 ≤ 600104; omega, by show 20000 + 8 * (c0) + 6 ≤ 7301314; omega⟩) (fun k hk H locs q9 ce hW hS hce hcv hcl => by subst hk; cases (show (none : Option (Int32 × yT)) = some (r, Tr) from zx_l h)) (fun r6 hk H locs hW hS => ?_)
        subst hk
        have h := zx_r h
        refine W.widen (k := c0 + 1) (n := 20000 + 8 * (c0 + 1)) (by omega) (by omega) ?_
        refine lv_iload hx hb dL_law_369 (lv_at hl 3 rfl) ?_
        refine lv_iconst (v := 1) hx hb dL_law_371 (by decide) ?_
        refine lv_isub hx hb dL_law_372 ?_
        refine lv_icmp_ne (tgt := 380) hx hb dL_law_373 (by decide) (fun c7 => ?_) (fun c7 => ?_)
        · have h := zin c7 h
          refine lv_iconst (v := 0) hx hb dL_law_380 (by decide) ?_
          exact t_L_law_381 C0 N hN hX hbl hLx hsz hrr hxc (ch356 := c0 + 1) (c0 := c0 + 1) (by omega) (fun h _ _ _ hW hS hl => ih (c0 + 1) (by omega) h hW hS hl) (by omega) (by omega) h hW hS (lv_sub hl [0, 2, 3] rfl)
        · have h := zip c7 h
          refine lv_iconst (v := 1) hx hb dL_law_376 (by decide) ?_
          refine lv_goto (tgt := 381) hx hb dL_law_377 (by decide) ?_
          exact t_L_law_381 C0 N hN hX hbl hLx hsz hrr hxc (ch356 := c0 + 1) (c0 := c0 + 1) (by omega) (fun h _ _ _ hW hS hl => ih (c0 + 1) (by omega) h hW hS hl) (by omega) (by omega) h hW hS (lv_sub hl [0, 2, 3] rfl)
noncomputable def f_L_law_342 (N : Nat) (xc : Int32 → Option Int32) (w2 : Int32) (T : yT) : Option (Int32 × yT) :=
zbp (f_L_call N T (6 : Int32) (0 : Int32) (0 : Int32) (0 : Int32) (0 : Int32)) fun q1 T3 => (
f_L_law_356 N xc 22 w2 q1 q1 T3)
set_option maxRecDepth 100000 in
set_option maxHeartbeats 8000000 in
theorem t_L_law_342 {p : Program} {l : Launch} {e : Env} {s : State} {m : MethodId} {below : List Frame} {meth : Method} {c : Code} {D : va_G} {cy : Nat → ClassId} {x0 lo zb Lx : Nat} {xs : Nat → Int32} (C0 : yCx p l s m c meth #[Value.ref zb] cL_law 8 wsL_law RL (some .boolean) D cy lo) (N : Nat) (hN : 10000000 ≤ N) {xc : Int32 → Option Int32} {r : Int32} (hX : va_X zb Lx xs s s.heap) (hbl : zb < lo) (hLx : Lx ≤ 260) (hsz : s.heap.size ≤ lo) (hrr : r = 1) (hxc : xc = y_cell Lx xs) {c0 : Nat} {w2 : Int32} {T : yT} {Tr : yT} (hc : c0 + 44 ≤ 560000) (h : f_L_law_342 N xc w2 T = some (r, Tr)) {H : Heap} {locs : List Loc} {ls : Array Slot} (hW : yWd D cy x0 lo T H) (hS : va_S (yA lo) s.heap H locs) (hl : lv_has ls 8 [(1, .ref x0), (2, .int w2)]) : W p l e room_1 s m #[Value.ref zb] below meth c H locs (c0) (20000 + 8 * (c0)) (lw_Z below #[Value.ref zb] s) (F0 m 342 ls []) := by
  obtain ⟨hx, hb, hr, hml, hown, hts, hlocks, hK, hE, hlo, hlt⟩ := id C0
  have hbA : ¬ yA lo zb := fun q => absurd q (Nat.not_le.mpr hbl)
  have hbs : zb < s.heap.size := Nat.lt_of_lt_of_le hbl hlo
  unfold f_L_law_342 at h
  refine lv_aload_n hx hb dL_law_342 rfl (lv_at hl 0 rfl) ?_
  refine lv_bipush (v := 6) hx hb dL_law_343 (by decide) ?_
  refine lv_iconst (v := 0) hx hb dL_law_345 (by decide) ?_
  refine lv_iconst (v := 0) hx hb dL_law_346 (by decide) ?_
  refine lv_iconst (v := 0) hx hb dL_law_347 (by decide) ?_
  refine lv_iconst (v := 0) hx hb dL_law_348 (by decide) ?_
  obtain ⟨q1, T3, e2, h⟩ := zbp_some h
  refine y_calli hS (vx_runSW (As := [.ref x0, .int (6 : Int32), .int (0 : Int32), .int (0 : Int32), .int (0 : Int32), .int (0 : Int32)]) (rest := []) ⟨hx, hb, hml, hown, hts⟩ (m_L_call l hlt N hN e2) (vx_cwSW (hh := [(0, 11, 12, 14), (0, 11, 18, 16), (0, 11, 24, 18)]) 6 hts (gM_L_call wsM_id) rfl rfl rfl (by decide +kernel) ⟨Nat.le_of_ble_eq_true rfl, Nat.le_of_ble_eq_true rfl⟩) (y_preS hK hE hlo hW hS [.ref x0, .int (6 : Int32), .int (0 : Int32), .int (0 : Int32), .int (0 : Int32), .int (0 : Int32)]) rfl rfl hl.1 rfl (lv_room (Nat.le_of_ble_eq_true rfl)) dL_law_349 ⟨by show c0 + 11 ≤ 600104; omega, by show 20000 + 8 * (c0) + 88 ≤ 7301314; omega⟩) (fun H locs hW hS => ?_)
  refine W.widen (k := c0 + 11) (n := 20000 + 8 * (c0 + 11)) (by omega) (by omega) ?_
  refine lv_istore_n (lv' := [(3, .int q1), (1, .ref x0), (2, .int w2)]) hx hb dL_law_352 rfl hl (by decide) rfl (fun ls hl => ?_)
  refine lv_iload_n hx hb dL_law_353 rfl (lv_at hl 0 rfl) ?_
  refine lv_istore (lv' := [(4, .int q1), (3, .int q1), (1, .ref x0), (2, .int w2)]) hx hb dL_law_354 hl (by decide) rfl (fun ls hl => ?_)
  exact t_L_law_356 C0 N hN hX hbl hLx hsz hrr hxc  22 (c0 + 11) (by omega) h hW hS (lv_sub hl [2, 3, 1, 0] rfl)
noncomputable def f_L_law_335 (N : Nat) (xc : Int32 → Option Int32) (kh55 : Int32 → Int32 → yT → Option (Int32 × yT)) (w3 : Int32) (s0 : Int32) (T : yT) : Option (Int32 × yT) :=
kh55 s0 (w3 + 1) T
set_option maxRecDepth 100000 in
set_option maxHeartbeats 8000000 in
theorem t_L_law_335 {p : Program} {l : Launch} {e : Env} {s : State} {m : MethodId} {below : List Frame} {meth : Method} {c : Code} {D : va_G} {cy : Nat → ClassId} {x0 lo zb Lx : Nat} {xs : Nat → Int32} (C0 : yCx p l s m c meth #[Value.ref zb] cL_law 8 wsL_law RL (some .boolean) D cy lo) (N : Nat) (hN : 10000000 ≤ N) {xc : Int32 → Option Int32} {r : Int32} (hX : va_X zb Lx xs s s.heap) (hbl : zb < lo) (hLx : Lx ≤ 260) (hsz : s.heap.size ≤ lo) (hrr : r = 1) (hxc : xc = y_cell Lx xs) {kh55 : Int32 → Int32 → yT → Option (Int32 × yT)} {ch55 : Nat} {c0 : Nat} {w3 : Int32} {s0 : Int32} {T : yT} {Tr : yT} (hm55 : ch55 ≤ 560000) (hk55 : ∀ {y2 : Int32} {y3 : Int32} {T : yT}, kh55 y2 y3 T = some (r, Tr) → ∀ {H : Heap} {locs : List Loc} {ls : Array Slot}, yWd D cy x0 lo T H → va_S (yA lo) s.heap H locs → lv_has ls 8 [(0, .ref zb), (1, .ref x0), (2, .int y2), (3, .int y3)] → W p l e room_1 s m #[Value.ref zb] below meth c H locs (ch55) (20000 + 8 * (ch55)) (lw_Z below #[Value.ref zb] s) (F0 m 55 ls [])) (hc : c0 + 0 ≤ 560000) (he55 : c0 + 0 ≤ ch55) (h : f_L_law_335 N xc kh55 w3 s0 T = some (r, Tr)) {H : Heap} {locs : List Loc} {ls : Array Slot} (hW : yWd D cy x0 lo T H) (hS : va_S (yA lo) s.heap H locs) (hl : lv_has ls 8 [(0, .ref zb), (1, .ref x0), (3, .int w3)]) : W p l e room_1 s m #[Value.ref zb] below meth c H locs (c0) (20000 + 8 * (c0)) (lw_Z below #[Value.ref zb] s) (F0 m 335 ls [.int s0]) := by
  obtain ⟨hx, hb, hr, hml, hown, hts, hlocks, hK, hE, hlo, hlt⟩ := id C0
  have hbA : ¬ yA lo zb := fun q => absurd q (Nat.not_le.mpr hbl)
  have hbs : zb < s.heap.size := Nat.lt_of_lt_of_le hbl hlo
  unfold f_L_law_335 at h
  refine lv_istore_n (lv' := [(2, .int s0), (0, .ref zb), (1, .ref x0), (3, .int w3)]) hx hb dL_law_335 rfl hl (by decide) rfl (fun ls hl => ?_)
  refine lv_iinc (k := 3) (v := (w3 + 1)) (lv' := [(3, .int (w3 + 1)), (2, .int s0), (0, .ref zb), (1, .ref x0)]) hx hb dL_law_336 hl rfl (by rw [show Int32.ofInt 1 = (1 : Int32) from by decide]) (by decide) rfl (fun ls hl => ?_)
  refine lv_goto (tgt := 55) hx hb dL_law_339 (by decide) ?_
  refine W.widen (k := ch55) (n := 20000 + 8 * ch55) (by omega) (by omega) ?_
  exact hk55 h hW hS (lv_sub hl [2, 3, 1, 0] rfl)
noncomputable def f_L_law_334 (N : Nat) (xc : Int32 → Option Int32) (kh55 : Int32 → Int32 → yT → Option (Int32 × yT)) (w3 : Int32) (T : yT) : Option (Int32 × yT) :=
f_L_law_335 N xc kh55 w3 (0 : Int32) T
set_option maxRecDepth 100000 in
set_option maxHeartbeats 8000000 in
theorem t_L_law_334 {p : Program} {l : Launch} {e : Env} {s : State} {m : MethodId} {below : List Frame} {meth : Method} {c : Code} {D : va_G} {cy : Nat → ClassId} {x0 lo zb Lx : Nat} {xs : Nat → Int32} (C0 : yCx p l s m c meth #[Value.ref zb] cL_law 8 wsL_law RL (some .boolean) D cy lo) (N : Nat) (hN : 10000000 ≤ N) {xc : Int32 → Option Int32} {r : Int32} (hX : va_X zb Lx xs s s.heap) (hbl : zb < lo) (hLx : Lx ≤ 260) (hsz : s.heap.size ≤ lo) (hrr : r = 1) (hxc : xc = y_cell Lx xs) {kh55 : Int32 → Int32 → yT → Option (Int32 × yT)} {ch55 : Nat} {c0 : Nat} {w3 : Int32} {T : yT} {Tr : yT} (hm55 : ch55 ≤ 560000) (hk55 : ∀ {y2 : Int32} {y3 : Int32} {T : yT}, kh55 y2 y3 T = some (r, Tr) → ∀ {H : Heap} {locs : List Loc} {ls : Array Slot}, yWd D cy x0 lo T H → va_S (yA lo) s.heap H locs → lv_has ls 8 [(0, .ref zb), (1, .ref x0), (2, .int y2), (3, .int y3)] → W p l e room_1 s m #[Value.ref zb] below meth c H locs (ch55) (20000 + 8 * (ch55)) (lw_Z below #[Value.ref zb] s) (F0 m 55 ls [])) (hc : c0 + 0 ≤ 560000) (he55 : c0 + 0 ≤ ch55) (h : f_L_law_334 N xc kh55 w3 T = some (r, Tr)) {H : Heap} {locs : List Loc} {ls : Array Slot} (hW : yWd D cy x0 lo T H) (hS : va_S (yA lo) s.heap H locs) (hl : lv_has ls 8 [(0, .ref zb), (1, .ref x0), (3, .int w3)]) : W p l e room_1 s m #[Value.ref zb] below meth c H locs (c0) (20000 + 8 * (c0)) (lw_Z below #[Value.ref zb] s) (F0 m 334 ls []) := by
  obtain ⟨hx, hb, hr, hml, hown, hts, hlocks, hK, hE, hlo, hlt⟩ := id C0
  have hbA : ¬ yA lo zb := fun q => absurd q (Nat.not_le.mpr hbl)
  have hbs : zb < s.heap.size := Nat.lt_of_lt_of_le hbl hlo
  unfold f_L_law_334 at h
  refine lv_iconst (v := 0) hx hb dL_law_334 (by decide) ?_
  exact t_L_law_335 C0 N hN hX hbl hLx hsz hrr hxc (ch55 := ch55) (c0 := c0) hm55 hk55 (by omega) (by omega) h hW hS (lv_sub hl [0, 1, 2] rfl)
noncomputable def f_L_law_330 (N : Nat) (xc : Int32 → Option Int32) (kh55 : Int32 → Int32 → yT → Option (Int32 × yT)) (w3 : Int32) (T : yT) : Option (Int32 × yT) :=
f_L_law_335 N xc kh55 w3 (1 : Int32) T
set_option maxRecDepth 100000 in
set_option maxHeartbeats 8000000 in
theorem t_L_law_330 {p : Program} {l : Launch} {e : Env} {s : State} {m : MethodId} {below : List Frame} {meth : Method} {c : Code} {D : va_G} {cy : Nat → ClassId} {x0 lo zb Lx : Nat} {xs : Nat → Int32} (C0 : yCx p l s m c meth #[Value.ref zb] cL_law 8 wsL_law RL (some .boolean) D cy lo) (N : Nat) (hN : 10000000 ≤ N) {xc : Int32 → Option Int32} {r : Int32} (hX : va_X zb Lx xs s s.heap) (hbl : zb < lo) (hLx : Lx ≤ 260) (hsz : s.heap.size ≤ lo) (hrr : r = 1) (hxc : xc = y_cell Lx xs) {kh55 : Int32 → Int32 → yT → Option (Int32 × yT)} {ch55 : Nat} {c0 : Nat} {w3 : Int32} {T : yT} {Tr : yT} (hm55 : ch55 ≤ 560000) (hk55 : ∀ {y2 : Int32} {y3 : Int32} {T : yT}, kh55 y2 y3 T = some (r, Tr) → ∀ {H : Heap} {locs : List Loc} {ls : Array Slot}, yWd D cy x0 lo T H → va_S (yA lo) s.heap H locs → lv_has ls 8 [(0, .ref zb), (1, .ref x0), (2, .int y2), (3, .int y3)] → W p l e room_1 s m #[Value.ref zb] below meth c H locs (ch55) (20000 + 8 * (ch55)) (lw_Z below #[Value.ref zb] s) (F0 m 55 ls [])) (hc : c0 + 0 ≤ 560000) (he55 : c0 + 0 ≤ ch55) (h : f_L_law_330 N xc kh55 w3 T = some (r, Tr)) {H : Heap} {locs : List Loc} {ls : Array Slot} (hW : yWd D cy x0 lo T H) (hS : va_S (yA lo) s.heap H locs) (hl : lv_has ls 8 [(0, .ref zb), (1, .ref x0), (3, .int w3)]) : W p l e room_1 s m #[Value.ref zb] below meth c H locs (c0) (20000 + 8 * (c0)) (lw_Z below #[Value.ref zb] s) (F0 m 330 ls []) := by
  obtain ⟨hx, hb, hr, hml, hown, hts, hlocks, hK, hE, hlo, hlt⟩ := id C0
  have hbA : ¬ yA lo zb := fun q => absurd q (Nat.not_le.mpr hbl)
  have hbs : zb < s.heap.size := Nat.lt_of_lt_of_le hbl hlo
  unfold f_L_law_330 at h
  refine lv_iconst (v := 1) hx hb dL_law_330 (by decide) ?_
  refine lv_goto (tgt := 335) hx hb dL_law_331 (by decide) ?_
  exact t_L_law_335 C0 N hN hX hbl hLx hsz hrr hxc (ch55 := ch55) (c0 := c0) hm55 hk55 (by omega) (by omega) h hW hS (lv_sub hl [0, 1, 2] rfl)
noncomputable def f_L_law_206 (N : Nat) (xc : Int32 → Option Int32) (kh55 : Int32 → Int32 → yT → Option (Int32 × yT)) (w3 : Int32) (w4 : Int32) (w5 : Int32) (s0 : Int32) (T : yT) : Option (Int32 × yT) :=
(if s0 = 0 then
f_L_law_334 N xc kh55 w3 T
else
zbp (f_L_grows N T (w4 >>> ((4 : Int32) &&& 31)) (0 : Int32)) fun q2 T4 => (
(if q2 = 0 then
f_L_law_334 N xc kh55 w3 T4
else
zbp (f_L_weighs N T4 (w4 >>> ((3 : Int32) &&& 31)) (0 : Int32)) fun q6 T8 => (
(if q6 = 0 then
f_L_law_334 N xc kh55 w3 T8
else
zbp (y_X6_sentences T8) fun q10 T12 => (
zx q10 (fun _ => none) fun r13 => (
(f_L_some N (w5 >>> ((5 : Int32) &&& 31)) r13).bind fun q14 => (
zbp (f_L_bests N T12 q14 (w4 >>> ((2 : Int32) &&& 31))) fun q16 T18 => (
(if q16 = 0 then
f_L_law_334 N xc kh55 w3 T18
else
(if (0 : Int32) < (w3 - w3 / (5 : Int32) * (5 : Int32)) then
f_L_law_330 N xc kh55 w3 T18
else
zbp (f_L_call N T18 (9 : Int32) (-1 : Int32) (0 : Int32) (0 : Int32) (0 : Int32)) fun q21 T23 => (
(if q21 = (-8001 : Int32) then
zbp (y_X6_sentences T23) fun q25 T27 => (
zx q25 (fun _ => none) fun r28 => (
zbp (f_L_call N T27 (13 : Int32) r28 (0 : Int32) (0 : Int32) (0 : Int32)) fun q29 T31 => (
(if q29 = (-8001 : Int32) then
zbp (f_L_call N T31 (12 : Int32) (0 : Int32) (1 : Int32) (0 : Int32) (0 : Int32)) fun q33 T35 => (
(if q33 = (-8001 : Int32) then
zbp (f_L_call N T35 (15 : Int32) (0 : Int32) (1 : Int32) (0 : Int32) (0 : Int32)) fun q37 T39 => (
(if q37 = (-8001 : Int32) then
f_L_law_330 N xc kh55 w3 T39
else
f_L_law_334 N xc kh55 w3 T39))
else
f_L_law_334 N xc kh55 w3 T35))
else
f_L_law_334 N xc kh55 w3 T31))))
else
f_L_law_334 N xc kh55 w3 T23)))))))))))))
set_option maxRecDepth 100000 in
set_option maxHeartbeats 8000000 in
theorem t_L_law_206 {p : Program} {l : Launch} {e : Env} {s : State} {m : MethodId} {below : List Frame} {meth : Method} {c : Code} {D : va_G} {cy : Nat → ClassId} {x0 lo zb Lx : Nat} {xs : Nat → Int32} (C0 : yCx p l s m c meth #[Value.ref zb] cL_law 8 wsL_law RL (some .boolean) D cy lo) (N : Nat) (hN : 10000000 ≤ N) {xc : Int32 → Option Int32} {r : Int32} (hX : va_X zb Lx xs s s.heap) (hbl : zb < lo) (hLx : Lx ≤ 260) (hsz : s.heap.size ≤ lo) (hrr : r = 1) (hxc : xc = y_cell Lx xs) {kh55 : Int32 → Int32 → yT → Option (Int32 × yT)} {ch55 : Nat} {c0 : Nat} {w3 : Int32} {w4 : Int32} {w5 : Int32} {s0 : Int32} {T : yT} {Tr : yT} (hm55 : ch55 ≤ 560000) (hk55 : ∀ {y2 : Int32} {y3 : Int32} {T : yT}, kh55 y2 y3 T = some (r, Tr) → ∀ {H : Heap} {locs : List Loc} {ls : Array Slot}, yWd D cy x0 lo T H → va_S (yA lo) s.heap H locs → lv_has ls 8 [(0, .ref zb), (1, .ref x0), (2, .int y2), (3, .int y3)] → W p l e room_1 s m #[Value.ref zb] below meth c H locs (ch55) (20000 + 8 * (ch55)) (lw_Z below #[Value.ref zb] s) (F0 m 55 ls [])) (hc : c0 + 6022 ≤ 560000) (he55 : c0 + 6022 ≤ ch55) (h : f_L_law_206 N xc kh55 w3 w4 w5 s0 T = some (r, Tr)) {H : Heap} {locs : List Loc} {ls : Array Slot} (hW : yWd D cy x0 lo T H) (hS : va_S (yA lo) s.heap H locs) (hl : lv_has ls 8 [(0, .ref zb), (1, .ref x0), (3, .int w3), (4, .int w4), (5, .int w5)]) : W p l e room_1 s m #[Value.ref zb] below meth c H locs (c0) (20000 + 8 * (c0)) (lw_Z below #[Value.ref zb] s) (F0 m 206 ls [.int s0]) := by
  obtain ⟨hx, hb, hr, hml, hown, hts, hlocks, hK, hE, hlo, hlt⟩ := id C0
  have hbA : ¬ yA lo zb := fun q => absurd q (Nat.not_le.mpr hbl)
  have hbs : zb < s.heap.size := Nat.lt_of_lt_of_le hbl hlo
  unfold f_L_law_206 at h
  refine lv_istore_n (lv' := [(2, .int s0), (0, .ref zb), (1, .ref x0), (3, .int w3), (4, .int w4), (5, .int w5)]) hx hb dL_law_206 rfl hl (by decide) rfl (fun ls hl => ?_)
  refine lv_iload_n hx hb dL_law_207 rfl (lv_at hl 0 rfl) ?_
  refine lv_if_eq (tgt := 334) hx hb dL_law_208 (by decide) (fun c1 => ?_) (fun c1 => ?_)
  · have h := zip c1 h
    exact t_L_law_334 C0 N hN hX hbl hLx hsz hrr hxc (ch55 := ch55) (c0 := c0) hm55 hk55 (by omega) (by omega) h hW hS (lv_sub hl [1, 2, 3] rfl)
  · have h := zin c1 h
    refine lv_aload_n hx hb dL_law_211 rfl (lv_at hl 2 rfl) ?_
    refine lv_iload hx hb dL_law_212 (lv_at hl 4 rfl) ?_
    refine lv_iconst (v := 4) hx hb dL_law_214 (by decide) ?_
    refine lv_ishr hx hb dL_law_215 ?_
    refine lv_iconst (v := 0) hx hb dL_law_216 (by decide) ?_
    obtain ⟨q2, T4, e3, h⟩ := zbp_some h
    refine y_calli hS (va_runS (As := [.ref x0, .int (w4 >>> ((4 : Int32) &&& 31)), .int (0 : Int32)]) (rest := []) ⟨hx, hb, hml, hown, hts⟩ (m_L_grows l hlt N hN e3) (va_cwS 3 hts (gM_L_grows wsM_id) rfl rfl rfl (by decide +kernel) ⟨Nat.le_of_ble_eq_true rfl, Nat.le_of_ble_eq_true rfl⟩) (y_preS hK hE hlo hW hS [.ref x0, .int (w4 >>> ((4 : Int32) &&& 31)), .int (0 : Int32)]) rfl rfl hl.1 rfl (lv_room (Nat.le_of_ble_eq_true rfl)) dL_law_217 ⟨by show c0 + 2214 ≤ 600104; omega, by show 20000 + 8 * (c0) + 17712 ≤ 7301314; omega⟩) (fun H locs hW hS => ?_)
    refine W.widen (k := c0 + 2214) (n := 20000 + 8 * (c0 + 2214)) (by omega) (by omega) ?_
    refine lv_if_eq (tgt := 334) hx hb dL_law_220 (by decide) (fun c5 => ?_) (fun c5 => ?_)
    · have h := zip c5 h
      exact t_L_law_334 C0 N hN hX hbl hLx hsz hrr hxc (ch55 := ch55) (c0 := c0 + 2214) hm55 hk55 (by omega) (by omega) h hW hS (lv_sub hl [1, 2, 3] rfl)
    · have h := zin c5 h
      refine lv_aload_n hx hb dL_law_223 rfl (lv_at hl 2 rfl) ?_
      refine lv_iload hx hb dL_law_224 (lv_at hl 4 rfl) ?_
      refine lv_iconst (v := 3) hx hb dL_law_226 (by decide) ?_
      refine lv_ishr hx hb dL_law_227 ?_
      refine lv_iconst (v := 0) hx hb dL_law_228 (by decide) ?_
      obtain ⟨q6, T8, e7, h⟩ := zbp_some h
      refine y_calli hS (va_runS (As := [.ref x0, .int (w4 >>> ((3 : Int32) &&& 31)), .int (0 : Int32)]) (rest := []) ⟨hx, hb, hml, hown, hts⟩ (m_L_weighs l hlt N hN e7) (va_cwS 3 hts (gM_L_weighs wsM_id) rfl rfl rfl (by decide +kernel) ⟨Nat.le_of_ble_eq_true rfl, Nat.le_of_ble_eq_true rfl⟩) (y_preS hK hE hlo hW hS [.ref x0, .int (w4 >>> ((3 : Int32) &&& 31)), .int (0 : Int32)]) rfl rfl hl.1 rfl (lv_room (Nat.le_of_ble_eq_true rfl)) dL_law_229 ⟨by show c0 + 2214 + 3330 ≤ 600104; omega, by show 20000 + 8 * (c0 + 2214) + 26640 ≤ 7301314; omega⟩) (fun H locs hW hS => ?_)
      refine W.widen (k := c0 + 5544) (n := 20000 + 8 * (c0 + 5544)) (by omega) (by omega) ?_
      refine lv_if_eq (tgt := 334) hx hb dL_law_232 (by decide) (fun c9 => ?_) (fun c9 => ?_)
      · have h := zip c9 h
        exact t_L_law_334 C0 N hN hX hbl hLx hsz hrr hxc (ch55 := ch55) (c0 := c0 + 5544) hm55 hk55 (by omega) (by omega) h hW hS (lv_sub hl [1, 2, 3] rfl)
      · have h := zin c9 h
        refine lv_aload_n hx hb dL_law_235 rfl (lv_at hl 2 rfl) ?_
        refine lv_iload hx hb dL_law_236 (lv_at hl 5 rfl) ?_
        refine lv_iconst (v := 5) hx hb dL_law_238 (by decide) ?_
        refine lv_ishr hx hb dL_law_239 ?_
        refine lv_aload_n hx hb dL_law_240 rfl (lv_at hl 2 rfl) ?_
        obtain ⟨q10, T12, e11, h⟩ := zbp_some h
        refine y_xcalli hS (vx_runV (As := []) (rest := [.int (w5 >>> ((5 : Int32) &&& 31)), .ref x0]) ⟨hx, hb, hml, hown, hts⟩ (n_X6_sentences l hlt N hN e11) (cwV 0 hts (gM_X6_sentences wsM_id) rfl rfl rfl (by decide +kernel) ⟨Nat.le_of_ble_eq_true rfl, Nat.le_of_ble_eq_true rfl⟩) (y_preV hK hE hlo hW hS []) rfl rfl hl.1 rfl (lv_room (Nat.le_of_ble_eq_true rfl)) dL_law_241 ⟨by show c0 + 5544 + 0 ≤ 600104; omega, by show 20000 + 8 * (c0 + 5544) + 0 ≤ 7301314; omega⟩) (fun k hk H locs q9 ce hW hS hce hcv hcl => by subst hk; cases (show (none : Option (Int32 × yT)) = some (r, Tr) from zx_l h)) (fun r13 hk H locs hW hS => ?_)
        subst hk
        have h := zx_r h
        obtain ⟨q14, e15, h⟩ := zb_some h
        refine y_calli hS (va_runS (As := [.int (w5 >>> ((5 : Int32) &&& 31)), .int r13]) (rest := [.ref x0]) ⟨hx, hb, hml, hown, hts⟩ (m_L_some l hlt N hN (T := T12) e15) (va_cwS 2 hts (gM_L_some wsM_id) rfl rfl rfl (by decide +kernel) ⟨Nat.le_of_ble_eq_true rfl, Nat.le_of_ble_eq_true rfl⟩) (y_preS hK hE hlo hW hS [.int (w5 >>> ((5 : Int32) &&& 31)), .int r13]) rfl rfl hl.1 rfl (lv_room (Nat.le_of_ble_eq_true rfl)) dL_law_244 ⟨by show c0 + 5544 + 0 ≤ 600104; omega, by show 20000 + 8 * (c0 + 5544) + 0 ≤ 7301314; omega⟩) (fun H locs hW hS => ?_)
        refine lv_iload hx hb dL_law_247 (lv_at hl 4 rfl) ?_
        refine lv_iconst (v := 2) hx hb dL_law_249 (by decide) ?_
        refine lv_ishr hx hb dL_law_250 ?_
        obtain ⟨q16, T18, e17, h⟩ := zbp_some h
        refine y_calli hS (va_runS (As := [.ref x0, .int q14, .int (w4 >>> ((2 : Int32) &&& 31))]) (rest := []) ⟨hx, hb, hml, hown, hts⟩ (m_L_bests l hlt N hN e17) (va_cwS 3 hts (gM_L_bests wsM_id) rfl rfl rfl (by decide +kernel) ⟨Nat.le_of_ble_eq_true rfl, Nat.le_of_ble_eq_true rfl⟩) (y_preS hK hE hlo hW hS [.ref x0, .int q14, .int (w4 >>> ((2 : Int32) &&& 31))]) rfl rfl hl.1 rfl (lv_room (Nat.le_of_ble_eq_true rfl)) dL_law_251 ⟨by show c0 + 5544 + 434 ≤ 600104; omega, by show 20000 + 8 * (c0 + 5544) + 3472 ≤ 7301314; omega⟩) (fun H locs hW hS => ?_)
        refine W.widen (k := c0 + 5978) (n := 20000 + 8 * (c0 + 5978)) (by omega) (by omega) ?_
        refine lv_if_eq (tgt := 334) hx hb dL_law_254 (by decide) (fun c19 => ?_) (fun c19 => ?_)
        · have h := zip c19 h
          exact t_L_law_334 C0 N hN hX hbl hLx hsz hrr hxc (ch55 := ch55) (c0 := c0 + 5978) hm55 hk55 (by omega) (by omega) h hW hS (lv_sub hl [1, 2, 3] rfl)
        · have h := zin c19 h
          refine lv_iload_n hx hb dL_law_257 rfl (lv_at hl 3 rfl) ?_
          refine lv_iconst (v := 5) hx hb dL_law_258 (by decide) ?_
          refine lv_irem hx hb dL_law_259 (by decide) ?_
          refine lv_if_gt (tgt := 330) hx hb dL_law_260 (by decide) (fun c20 => ?_) (fun c20 => ?_)
          · have h := zip c20 h
            exact t_L_law_330 C0 N hN hX hbl hLx hsz hrr hxc (ch55 := ch55) (c0 := c0 + 5978) hm55 hk55 (by omega) (by omega) h hW hS (lv_sub hl [1, 2, 3] rfl)
          · have h := zin c20 h
            refine lv_aload_n hx hb dL_law_263 rfl (lv_at hl 2 rfl) ?_
            refine lv_bipush (v := 9) hx hb dL_law_264 (by decide) ?_
            refine lv_iconst (v := -1) hx hb dL_law_266 (by decide) ?_
            refine lv_iconst (v := 0) hx hb dL_law_267 (by decide) ?_
            refine lv_iconst (v := 0) hx hb dL_law_268 (by decide) ?_
            refine lv_iconst (v := 0) hx hb dL_law_269 (by decide) ?_
            obtain ⟨q21, T23, e22, h⟩ := zbp_some h
            refine y_calli hS (vx_runSW (As := [.ref x0, .int (9 : Int32), .int (-1 : Int32), .int (0 : Int32), .int (0 : Int32), .int (0 : Int32)]) (rest := []) ⟨hx, hb, hml, hown, hts⟩ (m_L_call l hlt N hN e22) (vx_cwSW (hh := [(0, 11, 12, 14), (0, 11, 18, 16), (0, 11, 24, 18)]) 6 hts (gM_L_call wsM_id) rfl rfl rfl (by decide +kernel) ⟨Nat.le_of_ble_eq_true rfl, Nat.le_of_ble_eq_true rfl⟩) (y_preS hK hE hlo hW hS [.ref x0, .int (9 : Int32), .int (-1 : Int32), .int (0 : Int32), .int (0 : Int32), .int (0 : Int32)]) rfl rfl hl.1 rfl (lv_room (Nat.le_of_ble_eq_true rfl)) dL_law_270 ⟨by show c0 + 5978 + 11 ≤ 600104; omega, by show 20000 + 8 * (c0 + 5978) + 88 ≤ 7301314; omega⟩) (fun H locs hW hS => ?_)
            refine W.widen (k := c0 + 5989) (n := 20000 + 8 * (c0 + 5989)) (by omega) (by omega) ?_
            refine lv_sipush (v := -8001) hx hb dL_law_273 (by decide) ?_
            refine lv_icmp_ne (tgt := 334) hx hb dL_law_276 (by decide) (fun c24 => ?_) (fun c24 => ?_)
            · have h := zin c24 h
              exact t_L_law_334 C0 N hN hX hbl hLx hsz hrr hxc (ch55 := ch55) (c0 := c0 + 5989) hm55 hk55 (by omega) (by omega) h hW hS (lv_sub hl [1, 2, 3] rfl)
            · have h := zip c24 h
              refine lv_aload_n hx hb dL_law_279 rfl (lv_at hl 2 rfl) ?_
              refine lv_bipush (v := 13) hx hb dL_law_280 (by decide) ?_
              refine lv_aload_n hx hb dL_law_282 rfl (lv_at hl 2 rfl) ?_
              obtain ⟨q25, T27, e26, h⟩ := zbp_some h
              refine y_xcalli hS (vx_runV (As := []) (rest := [.int (13 : Int32), .ref x0]) ⟨hx, hb, hml, hown, hts⟩ (n_X6_sentences l hlt N hN e26) (cwV 0 hts (gM_X6_sentences wsM_id) rfl rfl rfl (by decide +kernel) ⟨Nat.le_of_ble_eq_true rfl, Nat.le_of_ble_eq_true rfl⟩) (y_preV hK hE hlo hW hS []) rfl rfl hl.1 rfl (lv_room (Nat.le_of_ble_eq_true rfl)) dL_law_283 ⟨by show c0 + 5989 + 0 ≤ 600104; omega, by show 20000 + 8 * (c0 + 5989) + 0 ≤ 7301314; omega⟩) (fun k hk H locs q9 ce hW hS hce hcv hcl => by subst hk; cases (show (none : Option (Int32 × yT)) = some (r, Tr) from zx_l h)) (fun r28 hk H locs hW hS => ?_)
              subst hk
              have h := zx_r h
              refine lv_iconst (v := 0) hx hb dL_law_286 (by decide) ?_
              refine lv_iconst (v := 0) hx hb dL_law_287 (by decide) ?_
              refine lv_iconst (v := 0) hx hb dL_law_288 (by decide) ?_
              obtain ⟨q29, T31, e30, h⟩ := zbp_some h
              refine y_calli hS (vx_runSW (As := [.ref x0, .int (13 : Int32), .int r28, .int (0 : Int32), .int (0 : Int32), .int (0 : Int32)]) (rest := []) ⟨hx, hb, hml, hown, hts⟩ (m_L_call l hlt N hN e30) (vx_cwSW (hh := [(0, 11, 12, 14), (0, 11, 18, 16), (0, 11, 24, 18)]) 6 hts (gM_L_call wsM_id) rfl rfl rfl (by decide +kernel) ⟨Nat.le_of_ble_eq_true rfl, Nat.le_of_ble_eq_true rfl⟩) (y_preS hK hE hlo hW hS [.ref x0, .int (13 : Int32), .int r28, .int (0 : Int32), .int (0 : Int32), .int (0 : Int32)]) rfl rfl hl.1 rfl (lv_room (Nat.le_of_ble_eq_true rfl)) dL_law_289 ⟨by show c0 + 5989 + 11 ≤ 600104; omega, by show 20000 + 8 * (c0 + 5989) + 88 ≤ 7301314; omega⟩) (fun H locs hW hS => ?_)
              refine W.widen (k := c0 + 6000) (n := 20000 + 8 * (c0 + 6000)) (by omega) (by omega) ?_
              refine lv_sipush (v := -8001) hx hb dL_law_292 (by decide) ?_
              refine lv_icmp_ne (tgt := 334) hx hb dL_law_295 (by decide) (fun c32 => ?_) (fun c32 => ?_)
              · have h := zin c32 h
                exact t_L_law_334 C0 N hN hX hbl hLx hsz hrr hxc (ch55 := ch55) (c0 := c0 + 6000) hm55 hk55 (by omega) (by omega) h hW hS (lv_sub hl [1, 2, 3] rfl)
              · have h := zip c32 h
                refine lv_aload_n hx hb dL_law_298 rfl (lv_at hl 2 rfl) ?_
                refine lv_bipush (v := 12) hx hb dL_law_299 (by decide) ?_
                refine lv_iconst (v := 0) hx hb dL_law_301 (by decide) ?_
                refine lv_iconst (v := 1) hx hb dL_law_302 (by decide) ?_
                refine lv_iconst (v := 0) hx hb dL_law_303 (by decide) ?_
                refine lv_iconst (v := 0) hx hb dL_law_304 (by decide) ?_
                obtain ⟨q33, T35, e34, h⟩ := zbp_some h
                refine y_calli hS (vx_runSW (As := [.ref x0, .int (12 : Int32), .int (0 : Int32), .int (1 : Int32), .int (0 : Int32), .int (0 : Int32)]) (rest := []) ⟨hx, hb, hml, hown, hts⟩ (m_L_call l hlt N hN e34) (vx_cwSW (hh := [(0, 11, 12, 14), (0, 11, 18, 16), (0, 11, 24, 18)]) 6 hts (gM_L_call wsM_id) rfl rfl rfl (by decide +kernel) ⟨Nat.le_of_ble_eq_true rfl, Nat.le_of_ble_eq_true rfl⟩) (y_preS hK hE hlo hW hS [.ref x0, .int (12 : Int32), .int (0 : Int32), .int (1 : Int32), .int (0 : Int32), .int (0 : Int32)]) rfl rfl hl.1 rfl (lv_room (Nat.le_of_ble_eq_true rfl)) dL_law_305 ⟨by show c0 + 6000 + 11 ≤ 600104; omega, by show 20000 + 8 * (c0 + 6000) + 88 ≤ 7301314; omega⟩) (fun H locs hW hS => ?_)
                refine W.widen (k := c0 + 6011) (n := 20000 + 8 * (c0 + 6011)) (by omega) (by omega) ?_
                refine lv_sipush (v := -8001) hx hb dL_law_308 (by decide) ?_
                refine lv_icmp_ne (tgt := 334) hx hb dL_law_311 (by decide) (fun c36 => ?_) (fun c36 => ?_)
                · have h := zin c36 h
                  exact t_L_law_334 C0 N hN hX hbl hLx hsz hrr hxc (ch55 := ch55) (c0 := c0 + 6011) hm55 hk55 (by omega) (by omega) h hW hS (lv_sub hl [1, 2, 3] rfl)
                · have h := zip c36 h
                  refine lv_aload_n hx hb dL_law_314 rfl (lv_at hl 2 rfl) ?_
                  refine lv_bipush (v := 15) hx hb dL_law_315 (by decide) ?_
                  refine lv_iconst (v := 0) hx hb dL_law_317 (by decide) ?_
                  refine lv_iconst (v := 1) hx hb dL_law_318 (by decide) ?_
                  refine lv_iconst (v := 0) hx hb dL_law_319 (by decide) ?_
                  refine lv_iconst (v := 0) hx hb dL_law_320 (by decide) ?_
                  obtain ⟨q37, T39, e38, h⟩ := zbp_some h
                  refine y_calli hS (vx_runSW (As := [.ref x0, .int (15 : Int32), .int (0 : Int32), .int (1 : Int32), .int (0 : Int32), .int (0 : Int32)]) (rest := []) ⟨hx, hb, hml, hown, hts⟩ (m_L_call l hlt N hN e38) (vx_cwSW (hh := [(0, 11, 12, 14), (0, 11, 18, 16), (0, 11, 24, 18)]) 6 hts (gM_L_call wsM_id) rfl rfl rfl (by decide +kernel) ⟨Nat.le_of_ble_eq_true rfl, Nat.le_of_ble_eq_true rfl⟩) (y_preS hK hE hlo hW hS [.ref x0, .int (15 : Int32), .int (0 : Int32), .int (1 : Int32), .int (0 : Int32), .int (0 : Int32)]) rfl rfl hl.1 rfl (lv_room (Nat.le_of_ble_eq_true rfl)) dL_law_321 ⟨by show c0 + 6011 + 11 ≤ 600104; omega, by show 20000 + 8 * (c0 + 6011) + 88 ≤ 7301314; omega⟩) (fun H locs hW hS => ?_)
                  refine W.widen (k := c0 + 6022) (n := 20000 + 8 * (c0 + 6022)) (by omega) (by omega) ?_
                  refine lv_sipush (v := -8001) hx hb dL_law_324 (by decide) ?_
                  refine lv_icmp_ne (tgt := 334) hx hb dL_law_327 (by decide) (fun c40 => ?_) (fun c40 => ?_)
                  · have h := zin c40 h
                    exact t_L_law_334 C0 N hN hX hbl hLx hsz hrr hxc (ch55 := ch55) (c0 := c0 + 6022) hm55 hk55 (by omega) (by omega) h hW hS (lv_sub hl [1, 2, 3] rfl)
                  · have h := zip c40 h
                    exact t_L_law_330 C0 N hN hX hbl hLx hsz hrr hxc (ch55 := ch55) (c0 := c0 + 6022) hm55 hk55 (by omega) (by omega) h hW hS (lv_sub hl [1, 2, 3] rfl)
noncomputable def f_L_law_103 (N : Nat) (xc : Int32 → Option Int32) (kh55 : Int32 → Int32 → yT → Option (Int32 × yT)) (w3 : Int32) (w4 : Int32) (w5 : Int32) (s0 : Int32) (T : yT) : Option (Int32 × yT) :=
(f_L_some N w4 (16 : Int32)).bind fun q1 => (
(if (5 : Int32) ≤ q1 then
(if (9 : Int32) ≤ q1 then
(if (12 : Int32) ≤ q1 then
(if (15 : Int32) ≤ q1 then
zbp (y_X6_sentences T) fun q7 T9 => (
zx q7 (fun _ => none) fun r10 => (
zbp (f_L_call N T9 (5 : Int32) r10 (0 : Int32) (0 : Int32) (0 : Int32)) fun q11 T13 => (
(if q11 = (-8001 : Int32) then
f_L_law_206 N xc kh55 w3 w4 w5 (1 : Int32) T13
else
f_L_law_206 N xc kh55 w3 w4 w5 (0 : Int32) T13))))
else
zbp (f_L_mends N T w5) fun q15 T17 => (
f_L_law_206 N xc kh55 w3 w4 w5 q15 T17))
else
zbp (f_L_weighs N T w5 s0) fun q18 T20 => (
f_L_law_206 N xc kh55 w3 w4 w5 q18 T20))
else
zbp (f_L_marks N T w5 s0) fun q21 T23 => (
f_L_law_206 N xc kh55 w3 w4 w5 q21 T23))
else
zbp (f_L_grows N T w5 s0) fun q24 T26 => (
f_L_law_206 N xc kh55 w3 w4 w5 q24 T26)))
set_option maxRecDepth 100000 in
set_option maxHeartbeats 8000000 in
theorem t_L_law_103 {p : Program} {l : Launch} {e : Env} {s : State} {m : MethodId} {below : List Frame} {meth : Method} {c : Code} {D : va_G} {cy : Nat → ClassId} {x0 lo zb Lx : Nat} {xs : Nat → Int32} (C0 : yCx p l s m c meth #[Value.ref zb] cL_law 8 wsL_law RL (some .boolean) D cy lo) (N : Nat) (hN : 10000000 ≤ N) {xc : Int32 → Option Int32} {r : Int32} (hX : va_X zb Lx xs s s.heap) (hbl : zb < lo) (hLx : Lx ≤ 260) (hsz : s.heap.size ≤ lo) (hrr : r = 1) (hxc : xc = y_cell Lx xs) {kh55 : Int32 → Int32 → yT → Option (Int32 × yT)} {ch55 : Nat} {c0 : Nat} {w3 : Int32} {w4 : Int32} {w5 : Int32} {s0 : Int32} {T : yT} {Tr : yT} (hm55 : ch55 ≤ 560000) (hk55 : ∀ {y2 : Int32} {y3 : Int32} {T : yT}, kh55 y2 y3 T = some (r, Tr) → ∀ {H : Heap} {locs : List Loc} {ls : Array Slot}, yWd D cy x0 lo T H → va_S (yA lo) s.heap H locs → lv_has ls 8 [(0, .ref zb), (1, .ref x0), (2, .int y2), (3, .int y3)] → W p l e room_1 s m #[Value.ref zb] below meth c H locs (ch55) (20000 + 8 * (ch55)) (lw_Z below #[Value.ref zb] s) (F0 m 55 ls [])) (hc : c0 + 10458 ≤ 560000) (he55 : c0 + 10458 ≤ ch55) (h : f_L_law_103 N xc kh55 w3 w4 w5 s0 T = some (r, Tr)) {H : Heap} {locs : List Loc} {ls : Array Slot} (hW : yWd D cy x0 lo T H) (hS : va_S (yA lo) s.heap H locs) (hl : lv_has ls 8 [(0, .ref zb), (1, .ref x0), (3, .int w3), (4, .int w4), (5, .int w5)]) : W p l e room_1 s m #[Value.ref zb] below meth c H locs (c0) (20000 + 8 * (c0)) (lw_Z below #[Value.ref zb] s) (F0 m 103 ls [.int s0]) := by
  obtain ⟨hx, hb, hr, hml, hown, hts, hlocks, hK, hE, hlo, hlt⟩ := id C0
  have hbA : ¬ yA lo zb := fun q => absurd q (Nat.not_le.mpr hbl)
  have hbs : zb < s.heap.size := Nat.lt_of_lt_of_le hbl hlo
  unfold f_L_law_103 at h
  refine lv_istore (lv' := [(6, .int s0), (0, .ref zb), (1, .ref x0), (3, .int w3), (4, .int w4), (5, .int w5)]) hx hb dL_law_103 hl (by decide) rfl (fun ls hl => ?_)
  refine lv_iload hx hb dL_law_105 (lv_at hl 4 rfl) ?_
  refine lv_bipush (v := 16) hx hb dL_law_107 (by decide) ?_
  obtain ⟨q1, e2, h⟩ := zb_some h
  refine y_calli hS (va_runS (As := [.int w4, .int (16 : Int32)]) (rest := []) ⟨hx, hb, hml, hown, hts⟩ (m_L_some l hlt N hN (T := T) e2) (va_cwS 2 hts (gM_L_some wsM_id) rfl rfl rfl (by decide +kernel) ⟨Nat.le_of_ble_eq_true rfl, Nat.le_of_ble_eq_true rfl⟩) (y_preS hK hE hlo hW hS [.int w4, .int (16 : Int32)]) rfl rfl hl.1 rfl (lv_room (Nat.le_of_ble_eq_true rfl)) dL_law_109 ⟨by show c0 + 0 ≤ 600104; omega, by show 20000 + 8 * (c0) + 0 ≤ 7301314; omega⟩) (fun H locs hW hS => ?_)
  refine lv_istore (lv' := [(7, .int q1), (6, .int s0), (0, .ref zb), (1, .ref x0), (3, .int w3), (4, .int w4), (5, .int w5)]) hx hb dL_law_112 hl (by decide) rfl (fun ls hl => ?_)
  refine lv_iload hx hb dL_law_114 (lv_at hl 0 rfl) ?_
  refine lv_iconst (v := 5) hx hb dL_law_116 (by decide) ?_
  refine lv_icmp_ge (tgt := 131) hx hb dL_law_117 (by decide) (fun c3 => ?_) (fun c3 => ?_)
  · have h := zip c3 h
    refine lv_iload hx hb dL_law_131 (lv_at hl 0 rfl) ?_
    refine lv_bipush (v := 9) hx hb dL_law_133 (by decide) ?_
    refine lv_icmp_ge (tgt := 149) hx hb dL_law_135 (by decide) (fun c4 => ?_) (fun c4 => ?_)
    · have h := zip c4 h
      refine lv_iload hx hb dL_law_149 (lv_at hl 0 rfl) ?_
      refine lv_bipush (v := 12) hx hb dL_law_151 (by decide) ?_
      refine lv_icmp_ge (tgt := 167) hx hb dL_law_153 (by decide) (fun c5 => ?_) (fun c5 => ?_)
      · have h := zip c5 h
        refine lv_iload hx hb dL_law_167 (lv_at hl 0 rfl) ?_
        refine lv_bipush (v := 15) hx hb dL_law_169 (by decide) ?_
        refine lv_icmp_ge (tgt := 183) hx hb dL_law_171 (by decide) (fun c6 => ?_) (fun c6 => ?_)
        · have h := zip c6 h
          refine lv_aload_n hx hb dL_law_183 rfl (lv_at hl 3 rfl) ?_
          refine lv_iconst (v := 5) hx hb dL_law_184 (by decide) ?_
          refine lv_aload_n hx hb dL_law_185 rfl (lv_at hl 3 rfl) ?_
          obtain ⟨q7, T9, e8, h⟩ := zbp_some h
          refine y_xcalli hS (vx_runV (As := []) (rest := [.int (5 : Int32), .ref x0]) ⟨hx, hb, hml, hown, hts⟩ (n_X6_sentences l hlt N hN e8) (cwV 0 hts (gM_X6_sentences wsM_id) rfl rfl rfl (by decide +kernel) ⟨Nat.le_of_ble_eq_true rfl, Nat.le_of_ble_eq_true rfl⟩) (y_preV hK hE hlo hW hS []) rfl rfl hl.1 rfl (lv_room (Nat.le_of_ble_eq_true rfl)) dL_law_186 ⟨by show c0 + 0 ≤ 600104; omega, by show 20000 + 8 * (c0) + 0 ≤ 7301314; omega⟩) (fun k hk H locs q9 ce hW hS hce hcv hcl => by subst hk; cases (show (none : Option (Int32 × yT)) = some (r, Tr) from zx_l h)) (fun r10 hk H locs hW hS => ?_)
          subst hk
          have h := zx_r h
          refine lv_iconst (v := 0) hx hb dL_law_189 (by decide) ?_
          refine lv_iconst (v := 0) hx hb dL_law_190 (by decide) ?_
          refine lv_iconst (v := 0) hx hb dL_law_191 (by decide) ?_
          obtain ⟨q11, T13, e12, h⟩ := zbp_some h
          refine y_calli hS (vx_runSW (As := [.ref x0, .int (5 : Int32), .int r10, .int (0 : Int32), .int (0 : Int32), .int (0 : Int32)]) (rest := []) ⟨hx, hb, hml, hown, hts⟩ (m_L_call l hlt N hN e12) (vx_cwSW (hh := [(0, 11, 12, 14), (0, 11, 18, 16), (0, 11, 24, 18)]) 6 hts (gM_L_call wsM_id) rfl rfl rfl (by decide +kernel) ⟨Nat.le_of_ble_eq_true rfl, Nat.le_of_ble_eq_true rfl⟩) (y_preS hK hE hlo hW hS [.ref x0, .int (5 : Int32), .int r10, .int (0 : Int32), .int (0 : Int32), .int (0 : Int32)]) rfl rfl hl.1 rfl (lv_room (Nat.le_of_ble_eq_true rfl)) dL_law_192 ⟨by show c0 + 11 ≤ 600104; omega, by show 20000 + 8 * (c0) + 88 ≤ 7301314; omega⟩) (fun H locs hW hS => ?_)
          refine W.widen (k := c0 + 11) (n := 20000 + 8 * (c0 + 11)) (by omega) (by omega) ?_
          refine lv_sipush (v := -8001) hx hb dL_law_195 (by decide) ?_
          refine lv_icmp_ne (tgt := 205) hx hb dL_law_198 (by decide) (fun c14 => ?_) (fun c14 => ?_)
          · have h := zin c14 h
            refine lv_iconst (v := 0) hx hb dL_law_205 (by decide) ?_
            exact t_L_law_206 C0 N hN hX hbl hLx hsz hrr hxc (ch55 := ch55) (c0 := c0 + 11) hm55 hk55 (by omega) (by omega) h hW hS (lv_sub hl [2, 3, 4, 5, 6] rfl)
          · have h := zip c14 h
            refine lv_iconst (v := 1) hx hb dL_law_201 (by decide) ?_
            refine lv_goto (tgt := 206) hx hb dL_law_202 (by decide) ?_
            exact t_L_law_206 C0 N hN hX hbl hLx hsz hrr hxc (ch55 := ch55) (c0 := c0 + 11) hm55 hk55 (by omega) (by omega) h hW hS (lv_sub hl [2, 3, 4, 5, 6] rfl)
        · have h := zin c6 h
          refine lv_aload_n hx hb dL_law_174 rfl (lv_at hl 3 rfl) ?_
          refine lv_iload hx hb dL_law_175 (lv_at hl 6 rfl) ?_
          obtain ⟨q15, T17, e16, h⟩ := zbp_some h
          refine y_calli hS (va_runS (As := [.ref x0, .int w5]) (rest := []) ⟨hx, hb, hml, hown, hts⟩ (m_L_mends l hlt N hN e16) (va_cwS 2 hts (gM_L_mends wsM_id) rfl rfl rfl (by decide +kernel) ⟨Nat.le_of_ble_eq_true rfl, Nat.le_of_ble_eq_true rfl⟩) (y_preS hK hE hlo hW hS [.ref x0, .int w5]) rfl rfl hl.1 rfl (lv_room (Nat.le_of_ble_eq_true rfl)) dL_law_177 ⟨by show c0 + 2689 ≤ 600104; omega, by show 20000 + 8 * (c0) + 21512 ≤ 7301314; omega⟩) (fun H locs hW hS => ?_)
          refine W.widen (k := c0 + 2689) (n := 20000 + 8 * (c0 + 2689)) (by omega) (by omega) ?_
          refine lv_goto (tgt := 206) hx hb dL_law_180 (by decide) ?_
          exact t_L_law_206 C0 N hN hX hbl hLx hsz hrr hxc (ch55 := ch55) (c0 := c0 + 2689) hm55 hk55 (by omega) (by omega) h hW hS (lv_sub hl [2, 3, 4, 5, 6] rfl)
      · have h := zin c5 h
        refine lv_aload_n hx hb dL_law_156 rfl (lv_at hl 3 rfl) ?_
        refine lv_iload hx hb dL_law_157 (lv_at hl 6 rfl) ?_
        refine lv_iload hx hb dL_law_159 (lv_at hl 1 rfl) ?_
        obtain ⟨q18, T20, e19, h⟩ := zbp_some h
        refine y_calli hS (va_runS (As := [.ref x0, .int w5, .int s0]) (rest := []) ⟨hx, hb, hml, hown, hts⟩ (m_L_weighs l hlt N hN e19) (va_cwS 3 hts (gM_L_weighs wsM_id) rfl rfl rfl (by decide +kernel) ⟨Nat.le_of_ble_eq_true rfl, Nat.le_of_ble_eq_true rfl⟩) (y_preS hK hE hlo hW hS [.ref x0, .int w5, .int s0]) rfl rfl hl.1 rfl (lv_room (Nat.le_of_ble_eq_true rfl)) dL_law_161 ⟨by show c0 + 3330 ≤ 600104; omega, by show 20000 + 8 * (c0) + 26640 ≤ 7301314; omega⟩) (fun H locs hW hS => ?_)
        refine W.widen (k := c0 + 3330) (n := 20000 + 8 * (c0 + 3330)) (by omega) (by omega) ?_
        refine lv_goto (tgt := 206) hx hb dL_law_164 (by decide) ?_
        exact t_L_law_206 C0 N hN hX hbl hLx hsz hrr hxc (ch55 := ch55) (c0 := c0 + 3330) hm55 hk55 (by omega) (by omega) h hW hS (lv_sub hl [2, 3, 4, 5, 6] rfl)
    · have h := zin c4 h
      refine lv_aload_n hx hb dL_law_138 rfl (lv_at hl 3 rfl) ?_
      refine lv_iload hx hb dL_law_139 (lv_at hl 6 rfl) ?_
      refine lv_iload hx hb dL_law_141 (lv_at hl 1 rfl) ?_
      obtain ⟨q21, T23, e22, h⟩ := zbp_some h
      refine y_calli hS (va_runS (As := [.ref x0, .int w5, .int s0]) (rest := []) ⟨hx, hb, hml, hown, hts⟩ (m_L_marks l hlt N hN e22) (va_cwS 3 hts (gM_L_marks wsM_id) rfl rfl rfl (by decide +kernel) ⟨Nat.le_of_ble_eq_true rfl, Nat.le_of_ble_eq_true rfl⟩) (y_preS hK hE hlo hW hS [.ref x0, .int w5, .int s0]) rfl rfl hl.1 rfl (lv_room (Nat.le_of_ble_eq_true rfl)) dL_law_143 ⟨by show c0 + 4436 ≤ 600104; omega, by show 20000 + 8 * (c0) + 35488 ≤ 7301314; omega⟩) (fun H locs hW hS => ?_)
      refine W.widen (k := c0 + 4436) (n := 20000 + 8 * (c0 + 4436)) (by omega) (by omega) ?_
      refine lv_goto (tgt := 206) hx hb dL_law_146 (by decide) ?_
      exact t_L_law_206 C0 N hN hX hbl hLx hsz hrr hxc (ch55 := ch55) (c0 := c0 + 4436) hm55 hk55 (by omega) (by omega) h hW hS (lv_sub hl [2, 3, 4, 5, 6] rfl)
  · have h := zin c3 h
    refine lv_aload_n hx hb dL_law_120 rfl (lv_at hl 3 rfl) ?_
    refine lv_iload hx hb dL_law_121 (lv_at hl 6 rfl) ?_
    refine lv_iload hx hb dL_law_123 (lv_at hl 1 rfl) ?_
    obtain ⟨q24, T26, e25, h⟩ := zbp_some h
    refine y_calli hS (va_runS (As := [.ref x0, .int w5, .int s0]) (rest := []) ⟨hx, hb, hml, hown, hts⟩ (m_L_grows l hlt N hN e25) (va_cwS 3 hts (gM_L_grows wsM_id) rfl rfl rfl (by decide +kernel) ⟨Nat.le_of_ble_eq_true rfl, Nat.le_of_ble_eq_true rfl⟩) (y_preS hK hE hlo hW hS [.ref x0, .int w5, .int s0]) rfl rfl hl.1 rfl (lv_room (Nat.le_of_ble_eq_true rfl)) dL_law_125 ⟨by show c0 + 2214 ≤ 600104; omega, by show 20000 + 8 * (c0) + 17712 ≤ 7301314; omega⟩) (fun H locs hW hS => ?_)
    refine W.widen (k := c0 + 2214) (n := 20000 + 8 * (c0 + 2214)) (by omega) (by omega) ?_
    refine lv_goto (tgt := 206) hx hb dL_law_128 (by decide) ?_
    exact t_L_law_206 C0 N hN hX hbl hLx hsz hrr hxc (ch55 := ch55) (c0 := c0 + 2214) hm55 hk55 (by omega) (by omega) h hW hS (lv_sub hl [2, 3, 4, 5, 6] rfl)
noncomputable def f_L_law_55 (N : Nat) (xc : Int32 → Option Int32) : Nat → Int32 → Int32 → yT → Option (Int32 × yT)
  | 0, _, _, _ => none
  | n + 1, w2, w3, T =>
    (if (30 : Int32) ≤ w3 then
    f_L_law_342 N xc w2 T
    else
    (if w2 = 0 then
    f_L_law_342 N xc w2 T
    else
    (xc ((2 : Int32) * w3)).bind fun q3 => (
    (xc (((2 : Int32) * w3) + (1 : Int32))).bind fun q5 => (
    (f_L_some N (q3 >>> ((9 : Int32) &&& 31)) (10 : Int32)).bind fun q7 => (
    (if q7 = 0 then
    f_L_law_103 N xc (fun y2 y3 T => f_L_law_55 N xc n y2 y3 T) w3 q3 q5 (1 : Int32) T
    else
    f_L_law_103 N xc (fun y2 y3 T => f_L_law_55 N xc n y2 y3 T) w3 q3 q5 (0 : Int32) T))))))
set_option maxRecDepth 100000 in
set_option maxHeartbeats 8000000 in
theorem t_L_law_55 {p : Program} {l : Launch} {e : Env} {s : State} {m : MethodId} {below : List Frame} {meth : Method} {c : Code} {D : va_G} {cy : Nat → ClassId} {x0 lo zb Lx : Nat} {xs : Nat → Int32} (C0 : yCx p l s m c meth #[Value.ref zb] cL_law 8 wsL_law RL (some .boolean) D cy lo) (N : Nat) (hN : 10000000 ≤ N) {xc : Int32 → Option Int32} {r : Int32} (hX : va_X zb Lx xs s s.heap) (hbl : zb < lo) (hLx : Lx ≤ 260) (hsz : s.heap.size ≤ lo) (hrr : r = 1) (hxc : xc = y_cell Lx xs) {Tr : yT} : ∀ (n c0 : Nat) {w2 : Int32} {w3 : Int32} {T : yT}, c0 + n * 10458 + 44 ≤ 560000 → f_L_law_55 N xc n w2 w3 T = some (r, Tr) → ∀ {H : Heap} {locs : List Loc} {ls : Array Slot}, yWd D cy x0 lo T H → va_S (yA lo) s.heap H locs → lv_has ls 8 [(0, .ref zb), (1, .ref x0), (2, .int w2), (3, .int w3)] → W p l e room_1 s m #[Value.ref zb] below meth c H locs (c0) (20000 + 8 * (c0)) (lw_Z below #[Value.ref zb] s) (F0 m 55 ls []) := by
  obtain ⟨hx, hb, hr, hml, hown, hts, hlocks, hK, hE, hlo, hlt⟩ := id C0
  have hbA : ¬ yA lo zb := fun q => absurd q (Nat.not_le.mpr hbl)
  have hbs : zb < s.heap.size := Nat.lt_of_lt_of_le hbl hlo
  intro n
  induction n with
  | zero =>
    intro c0 w2 w3 T hc h
    cases (show (none : Option (Int32 × yT)) = some (r, Tr) from h)
  | succ n ih =>
    intro c0 w2 w3 T hc h H locs ls hW hS hl
    rw [f_L_law_55] at h
    refine lv_iload_n hx hb dL_law_55 rfl (lv_at hl 3 rfl) ?_
    refine lv_bipush (v := 30) hx hb dL_law_56 (by decide) ?_
    refine lv_icmp_ge (tgt := 342) hx hb dL_law_58 (by decide) (fun c1 => ?_) (fun c1 => ?_)
    · have h := zip c1 h
      exact t_L_law_342 C0 N hN hX hbl hLx hsz hrr hxc (c0 := c0)  (by omega) h hW hS (lv_sub hl [1, 2] rfl)
    · have h := zin c1 h
      refine lv_iload_n hx hb dL_law_61 rfl (lv_at hl 2 rfl) ?_
      refine lv_if_eq (tgt := 342) hx hb dL_law_62 (by decide) (fun c2 => ?_) (fun c2 => ?_)
      · have h := zip c2 h
        exact t_L_law_342 C0 N hN hX hbl hLx hsz hrr hxc (c0 := c0)  (by omega) h hW hS (lv_sub hl [1, 2] rfl)
      · have h := zin c2 h
        refine lv_aload_n hx hb dL_law_65 rfl (lv_at hl 0 rfl) ?_
        refine lv_iconst (v := 2) hx hb dL_law_66 (by decide) ?_
        refine lv_iload_n hx hb dL_law_67 rfl (lv_at hl 3 rfl) ?_
        refine lv_imul hx hb dL_law_68 ?_
        obtain ⟨q3, e4, h⟩ := zb_some h
        rw [hxc] at e4
        refine y_calli hS (va_runS (As := [.ref zb, .int ((2 : Int32) * w3)]) (rest := []) ⟨hx, hb, hml, hown, hts⟩ (m_L_cell l hlt e4) (va_cwS 2 hts gL_law_L_cell rfl rfl rfl (by decide +kernel) ⟨Nat.le_of_ble_eq_true rfl, Nat.le_of_ble_eq_true rfl⟩) (y_preC hK hE hlo hX hbl hLx hW hS ((2 : Int32) * w3)) rfl rfl hl.1 rfl (lv_room (Nat.le_of_ble_eq_true rfl)) dL_law_69 ⟨by show c0 + 0 ≤ 600104; omega, by show 20000 + 8 * (c0) + 0 ≤ 7301314; omega⟩) (fun H locs hW hS => ?_)
        refine lv_istore (lv' := [(4, .int q3), (0, .ref zb), (1, .ref x0), (2, .int w2), (3, .int w3)]) hx hb dL_law_72 hl (by decide) rfl (fun ls hl => ?_)
        refine lv_aload_n hx hb dL_law_74 rfl (lv_at hl 1 rfl) ?_
        refine lv_iconst (v := 2) hx hb dL_law_75 (by decide) ?_
        refine lv_iload_n hx hb dL_law_76 rfl (lv_at hl 4 rfl) ?_
        refine lv_imul hx hb dL_law_77 ?_
        refine lv_iconst (v := 1) hx hb dL_law_78 (by decide) ?_
        refine lv_iadd hx hb dL_law_79 ?_
        obtain ⟨q5, e6, h⟩ := zb_some h
        rw [hxc] at e6
        refine y_calli hS (va_runS (As := [.ref zb, .int (((2 : Int32) * w3) + (1 : Int32))]) (rest := []) ⟨hx, hb, hml, hown, hts⟩ (m_L_cell l hlt e6) (va_cwS 2 hts gL_law_L_cell rfl rfl rfl (by decide +kernel) ⟨Nat.le_of_ble_eq_true rfl, Nat.le_of_ble_eq_true rfl⟩) (y_preC hK hE hlo hX hbl hLx hW hS (((2 : Int32) * w3) + (1 : Int32))) rfl rfl hl.1 rfl (lv_room (Nat.le_of_ble_eq_true rfl)) dL_law_80 ⟨by show c0 + 0 ≤ 600104; omega, by show 20000 + 8 * (c0) + 0 ≤ 7301314; omega⟩) (fun H locs hW hS => ?_)
        refine lv_istore (lv' := [(5, .int q5), (4, .int q3), (0, .ref zb), (1, .ref x0), (2, .int w2), (3, .int w3)]) hx hb dL_law_83 hl (by decide) rfl (fun ls hl => ?_)
        refine lv_iload hx hb dL_law_85 (lv_at hl 1 rfl) ?_
        refine lv_bipush (v := 9) hx hb dL_law_87 (by decide) ?_
        refine lv_ishr hx hb dL_law_89 ?_
        refine lv_bipush (v := 10) hx hb dL_law_90 (by decide) ?_
        obtain ⟨q7, e8, h⟩ := zb_some h
        refine y_calli hS (va_runS (As := [.int (q3 >>> ((9 : Int32) &&& 31)), .int (10 : Int32)]) (rest := []) ⟨hx, hb, hml, hown, hts⟩ (m_L_some l hlt N hN (T := T) e8) (va_cwS 2 hts (gM_L_some wsM_id) rfl rfl rfl (by decide +kernel) ⟨Nat.le_of_ble_eq_true rfl, Nat.le_of_ble_eq_true rfl⟩) (y_preS hK hE hlo hW hS [.int (q3 >>> ((9 : Int32) &&& 31)), .int (10 : Int32)]) rfl rfl hl.1 rfl (lv_room (Nat.le_of_ble_eq_true rfl)) dL_law_92 ⟨by show c0 + 0 ≤ 600104; omega, by show 20000 + 8 * (c0) + 0 ≤ 7301314; omega⟩) (fun H locs hW hS => ?_)
        refine lv_if_ne (tgt := 102) hx hb dL_law_95 (by decide) (fun c9 => ?_) (fun c9 => ?_)
        · have h := zin c9 h
          refine lv_iconst (v := 0) hx hb dL_law_102 (by decide) ?_
          exact t_L_law_103 C0 N hN hX hbl hLx hsz hrr hxc (ch55 := c0 + 10458) (c0 := c0) (by omega) (fun h _ _ _ hW hS hl => ih (c0 + 10458) (by omega) h hW hS hl) (by omega) (by omega) h hW hS (lv_sub hl [2, 3, 5, 1, 0] rfl)
        · have h := zip c9 h
          refine lv_iconst (v := 1) hx hb dL_law_98 (by decide) ?_
          refine lv_goto (tgt := 103) hx hb dL_law_99 (by decide) ?_
          exact t_L_law_103 C0 N hN hX hbl hLx hsz hrr hxc (ch55 := c0 + 10458) (c0 := c0) (by omega) (fun h _ _ _ hW hS hl => ih (c0 + 10458) (by omega) h hW hS hl) (by omega) (by omega) h hW hS (lv_sub hl [2, 3, 5, 1, 0] rfl)
noncomputable def f_L_law_52 (N : Nat) (xc : Int32 → Option Int32) (s0 : Int32) (T : yT) : Option (Int32 × yT) :=
f_L_law_55 N xc 31 s0 (0 : Int32) T
set_option maxRecDepth 100000 in
set_option maxHeartbeats 8000000 in
theorem t_L_law_52 {p : Program} {l : Launch} {e : Env} {s : State} {m : MethodId} {below : List Frame} {meth : Method} {c : Code} {D : va_G} {cy : Nat → ClassId} {x0 lo zb Lx : Nat} {xs : Nat → Int32} (C0 : yCx p l s m c meth #[Value.ref zb] cL_law 8 wsL_law RL (some .boolean) D cy lo) (N : Nat) (hN : 10000000 ≤ N) {xc : Int32 → Option Int32} {r : Int32} (hX : va_X zb Lx xs s s.heap) (hbl : zb < lo) (hLx : Lx ≤ 260) (hsz : s.heap.size ≤ lo) (hrr : r = 1) (hxc : xc = y_cell Lx xs) {c0 : Nat} {s0 : Int32} {T : yT} {Tr : yT} (hc : c0 + 324242 ≤ 560000) (h : f_L_law_52 N xc s0 T = some (r, Tr)) {H : Heap} {locs : List Loc} {ls : Array Slot} (hW : yWd D cy x0 lo T H) (hS : va_S (yA lo) s.heap H locs) (hl : lv_has ls 8 [(0, .ref zb), (1, .ref x0)]) : W p l e room_1 s m #[Value.ref zb] below meth c H locs (c0) (20000 + 8 * (c0)) (lw_Z below #[Value.ref zb] s) (F0 m 52 ls [.int s0]) := by
  obtain ⟨hx, hb, hr, hml, hown, hts, hlocks, hK, hE, hlo, hlt⟩ := id C0
  have hbA : ¬ yA lo zb := fun q => absurd q (Nat.not_le.mpr hbl)
  have hbs : zb < s.heap.size := Nat.lt_of_lt_of_le hbl hlo
  unfold f_L_law_52 at h
  refine lv_istore_n (lv' := [(2, .int s0), (0, .ref zb), (1, .ref x0)]) hx hb dL_law_52 rfl hl (by decide) rfl (fun ls hl => ?_)
  refine lv_iconst (v := 0) hx hb dL_law_53 (by decide) ?_
  refine lv_istore_n (lv' := [(3, .int (0 : Int32)), (2, .int s0), (0, .ref zb), (1, .ref x0)]) hx hb dL_law_54 rfl hl (by decide) rfl (fun ls hl => ?_)
  exact t_L_law_55 C0 N hN hX hbl hLx hsz hrr hxc  31 (c0) (by omega) h hW hS (lv_sub hl [2, 3, 1, 0] rfl)
noncomputable def f_L_law_51 (N : Nat) (xc : Int32 → Option Int32) (T : yT) : Option (Int32 × yT) :=
f_L_law_52 N xc (0 : Int32) T
set_option maxRecDepth 100000 in
set_option maxHeartbeats 8000000 in
theorem t_L_law_51 {p : Program} {l : Launch} {e : Env} {s : State} {m : MethodId} {below : List Frame} {meth : Method} {c : Code} {D : va_G} {cy : Nat → ClassId} {x0 lo zb Lx : Nat} {xs : Nat → Int32} (C0 : yCx p l s m c meth #[Value.ref zb] cL_law 8 wsL_law RL (some .boolean) D cy lo) (N : Nat) (hN : 10000000 ≤ N) {xc : Int32 → Option Int32} {r : Int32} (hX : va_X zb Lx xs s s.heap) (hbl : zb < lo) (hLx : Lx ≤ 260) (hsz : s.heap.size ≤ lo) (hrr : r = 1) (hxc : xc = y_cell Lx xs) {c0 : Nat} {T : yT} {Tr : yT} (hc : c0 + 324242 ≤ 560000) (h : f_L_law_51 N xc T = some (r, Tr)) {H : Heap} {locs : List Loc} {ls : Array Slot} (hW : yWd D cy x0 lo T H) (hS : va_S (yA lo) s.heap H locs) (hl : lv_has ls 8 [(0, .ref zb), (1, .ref x0)]) : W p l e room_1 s m #[Value.ref zb] below meth c H locs (c0) (20000 + 8 * (c0)) (lw_Z below #[Value.ref zb] s) (F0 m 51 ls []) := by
  obtain ⟨hx, hb, hr, hml, hown, hts, hlocks, hK, hE, hlo, hlt⟩ := id C0
  have hbA : ¬ yA lo zb := fun q => absurd q (Nat.not_le.mpr hbl)
  have hbs : zb < s.heap.size := Nat.lt_of_lt_of_le hbl hlo
  unfold f_L_law_51 at h
  refine lv_iconst (v := 0) hx hb dL_law_51 (by decide) ?_
  exact t_L_law_52 C0 N hN hX hbl hLx hsz hrr hxc (c0 := c0)  (by omega) h hW hS (lv_sub hl [0, 1] rfl)
noncomputable def f_L_law_8 (N : Nat) (xc : Int32 → Option Int32) (T : yT) : Option (Int32 × yT) :=
zbp (f_L_all N T) fun q1 T3 => (
zbp (f_L_all N T3) fun q4 T6 => (
(if q1 = q4 then
zbp (y_X6_addSentence T6) fun q8 T10 => (
zx q8 (fun _ => none) fun r11 => (
(if r11 = 0 then
zbp (y_X6_addWord T10 (0 : Int32) (1 : Int32)) fun q13 T15 => (
zx q13 (fun _ => none) fun r16 => (
(if r16 = (1 : Int32) then
zbp (y_X6_addWord T15 (0 : Int32) (2 : Int32)) fun q18 T20 => (
zx q18 (fun _ => none) fun r21 => (
(if r21 = (2 : Int32) then
f_L_law_52 N xc (1 : Int32) T20
else
f_L_law_51 N xc T20)))
else
f_L_law_51 N xc T15)))
else
f_L_law_51 N xc T10)))
else
f_L_law_51 N xc T6)))
set_option maxRecDepth 100000 in
set_option maxHeartbeats 8000000 in
theorem t_L_law_8 {p : Program} {l : Launch} {e : Env} {s : State} {m : MethodId} {below : List Frame} {meth : Method} {c : Code} {D : va_G} {cy : Nat → ClassId} {x0 lo zb Lx : Nat} {xs : Nat → Int32} (C0 : yCx p l s m c meth #[Value.ref zb] cL_law 8 wsL_law RL (some .boolean) D cy lo) (N : Nat) (hN : 10000000 ≤ N) {xc : Int32 → Option Int32} {r : Int32} (hX : va_X zb Lx xs s s.heap) (hbl : zb < lo) (hLx : Lx ≤ 260) (hsz : s.heap.size ≤ lo) (hrr : r = 1) (hxc : xc = y_cell Lx xs) {c0 : Nat} {T : yT} {Tr : yT} (hc : c0 + 326459 ≤ 560000) (h : f_L_law_8 N xc T = some (r, Tr)) {H : Heap} {locs : List Loc} {ls : Array Slot} (hW : yWd D cy x0 lo T H) (hS : va_S (yA lo) s.heap H locs) (hl : lv_has ls 8 [(0, .ref zb), (1, .ref x0)]) : W p l e room_1 s m #[Value.ref zb] below meth c H locs (c0) (20000 + 8 * (c0)) (lw_Z below #[Value.ref zb] s) (F0 m 8 ls []) := by
  obtain ⟨hx, hb, hr, hml, hown, hts, hlocks, hK, hE, hlo, hlt⟩ := id C0
  have hbA : ¬ yA lo zb := fun q => absurd q (Nat.not_le.mpr hbl)
  have hbs : zb < s.heap.size := Nat.lt_of_lt_of_le hbl hlo
  unfold f_L_law_8 at h
  refine lv_aload_n hx hb dL_law_8 rfl (lv_at hl 1 rfl) ?_
  obtain ⟨q1, T3, e2, h⟩ := zbp_some h
  refine y_calll hS (va_runS (As := [.ref x0]) (rest := []) ⟨hx, hb, hml, hown, hts⟩ (m_L_all l hlt N hN e2) (va_cwS 1 hts (gM_L_all wsM_id) rfl rfl rfl (by decide +kernel) ⟨Nat.le_of_ble_eq_true rfl, Nat.le_of_ble_eq_true rfl⟩) (y_preS hK hE hlo hW hS [.ref x0]) rfl rfl hl.1 rfl (lv_room (Nat.le_of_ble_eq_true rfl)) dL_law_9 ⟨by show c0 + 1101 ≤ 600104; omega, by show 20000 + 8 * (c0) + 8808 ≤ 7301314; omega⟩) (fun H locs hW hS => ?_)
  refine W.widen (k := c0 + 1101) (n := 20000 + 8 * (c0 + 1101)) (by omega) (by omega) ?_
  refine lv_aload_n hx hb dL_law_12 rfl (lv_at hl 1 rfl) ?_
  obtain ⟨q4, T6, e5, h⟩ := zbp_some h
  refine y_calll hS (va_runS (As := [.ref x0]) (rest := [.long q1]) ⟨hx, hb, hml, hown, hts⟩ (m_L_all l hlt N hN e5) (va_cwS 1 hts (gM_L_all wsM_id) rfl rfl rfl (by decide +kernel) ⟨Nat.le_of_ble_eq_true rfl, Nat.le_of_ble_eq_true rfl⟩) (y_preS hK hE hlo hW hS [.ref x0]) rfl rfl hl.1 rfl (lv_room (Nat.le_of_ble_eq_true rfl)) dL_law_13 ⟨by show c0 + 1101 + 1101 ≤ 600104; omega, by show 20000 + 8 * (c0 + 1101) + 8808 ≤ 7301314; omega⟩) (fun H locs hW hS => ?_)
  refine W.widen (k := c0 + 2202) (n := 20000 + 8 * (c0 + 2202)) (by omega) (by omega) ?_
  refine z_lc_ne (tgt := 51) hx hb dL_law_16 dL_law_17 (by decide) (fun c7 => ?_) (fun c7 => ?_)
  · have h := zin c7 h
    exact t_L_law_51 C0 N hN hX hbl hLx hsz hrr hxc (c0 := c0 + 2202)  (by omega) h hW hS (lv_sub hl [0, 1] rfl)
  · have h := zip c7 h
    refine lv_aload_n hx hb dL_law_20 rfl (lv_at hl 1 rfl) ?_
    obtain ⟨q8, T10, e9, h⟩ := zbp_some h
    refine y_xcalli hS (vx_runV (As := []) (rest := []) ⟨hx, hb, hml, hown, hts⟩ (n_X6_addSentence l hlt N hN e9) (cwV 0 hts (gM_X6_addSentence wsM_id) rfl rfl rfl (by decide +kernel) ⟨Nat.le_of_ble_eq_true rfl, Nat.le_of_ble_eq_true rfl⟩) (y_preV hK hE hlo hW hS []) rfl rfl hl.1 rfl (lv_room (Nat.le_of_ble_eq_true rfl)) dL_law_21 ⟨by show c0 + 2202 + 11 ≤ 600104; omega, by show 20000 + 8 * (c0 + 2202) + 74 ≤ 7301314; omega⟩) (fun k hk H locs q9 ce hW hS hce hcv hcl => by subst hk; cases (show (none : Option (Int32 × yT)) = some (r, Tr) from zx_l h)) (fun r11 hk H locs hW hS => ?_)
    subst hk
    have h := zx_r h
    refine W.widen (k := c0 + 2213) (n := 20000 + 8 * (c0 + 2213)) (by omega) (by omega) ?_
    refine lv_if_ne (tgt := 51) hx hb dL_law_24 (by decide) (fun c12 => ?_) (fun c12 => ?_)
    · have h := zin c12 h
      exact t_L_law_51 C0 N hN hX hbl hLx hsz hrr hxc (c0 := c0 + 2213)  (by omega) h hW hS (lv_sub hl [0, 1] rfl)
    · have h := zip c12 h
      refine lv_aload_n hx hb dL_law_27 rfl (lv_at hl 1 rfl) ?_
      refine lv_iconst (v := 0) hx hb dL_law_28 (by decide) ?_
      refine lv_iconst (v := 1) hx hb dL_law_29 (by decide) ?_
      obtain ⟨q13, T15, e14, h⟩ := zbp_some h
      refine y_xcalli hS (vx_runV (As := [.int (0 : Int32), .int (1 : Int32)]) (rest := []) ⟨hx, hb, hml, hown, hts⟩ (n_X6_addWord l hlt N hN e14) (cwV 2 hts (gM_X6_addWord wsM_id) rfl rfl rfl (by decide +kernel) ⟨Nat.le_of_ble_eq_true rfl, Nat.le_of_ble_eq_true rfl⟩) (y_preV hK hE hlo hW hS [.int (0 : Int32), .int (1 : Int32)]) rfl rfl hl.1 rfl (lv_room (Nat.le_of_ble_eq_true rfl)) dL_law_30 ⟨by show c0 + 2213 + 2 ≤ 600104; omega, by show 20000 + 8 * (c0 + 2213) + 12 ≤ 7301314; omega⟩) (fun k hk H locs q9 ce hW hS hce hcv hcl => by subst hk; cases (show (none : Option (Int32 × yT)) = some (r, Tr) from zx_l h)) (fun r16 hk H locs hW hS => ?_)
      subst hk
      have h := zx_r h
      refine W.widen (k := c0 + 2215) (n := 20000 + 8 * (c0 + 2215)) (by omega) (by omega) ?_
      refine lv_iconst (v := 1) hx hb dL_law_33 (by decide) ?_
      refine lv_icmp_ne (tgt := 51) hx hb dL_law_34 (by decide) (fun c17 => ?_) (fun c17 => ?_)
      · have h := zin c17 h
        exact t_L_law_51 C0 N hN hX hbl hLx hsz hrr hxc (c0 := c0 + 2215)  (by omega) h hW hS (lv_sub hl [0, 1] rfl)
      · have h := zip c17 h
        refine lv_aload_n hx hb dL_law_37 rfl (lv_at hl 1 rfl) ?_
        refine lv_iconst (v := 0) hx hb dL_law_38 (by decide) ?_
        refine lv_iconst (v := 2) hx hb dL_law_39 (by decide) ?_
        obtain ⟨q18, T20, e19, h⟩ := zbp_some h
        refine y_xcalli hS (vx_runV (As := [.int (0 : Int32), .int (2 : Int32)]) (rest := []) ⟨hx, hb, hml, hown, hts⟩ (n_X6_addWord l hlt N hN e19) (cwV 2 hts (gM_X6_addWord wsM_id) rfl rfl rfl (by decide +kernel) ⟨Nat.le_of_ble_eq_true rfl, Nat.le_of_ble_eq_true rfl⟩) (y_preV hK hE hlo hW hS [.int (0 : Int32), .int (2 : Int32)]) rfl rfl hl.1 rfl (lv_room (Nat.le_of_ble_eq_true rfl)) dL_law_40 ⟨by show c0 + 2215 + 2 ≤ 600104; omega, by show 20000 + 8 * (c0 + 2215) + 12 ≤ 7301314; omega⟩) (fun k hk H locs q9 ce hW hS hce hcv hcl => by subst hk; cases (show (none : Option (Int32 × yT)) = some (r, Tr) from zx_l h)) (fun r21 hk H locs hW hS => ?_)
        subst hk
        have h := zx_r h
        refine W.widen (k := c0 + 2217) (n := 20000 + 8 * (c0 + 2217)) (by omega) (by omega) ?_
        refine lv_iconst (v := 2) hx hb dL_law_43 (by decide) ?_
        refine lv_icmp_ne (tgt := 51) hx hb dL_law_44 (by decide) (fun c22 => ?_) (fun c22 => ?_)
        · have h := zin c22 h
          exact t_L_law_51 C0 N hN hX hbl hLx hsz hrr hxc (c0 := c0 + 2217)  (by omega) h hW hS (lv_sub hl [0, 1] rfl)
        · have h := zip c22 h
          refine lv_iconst (v := 1) hx hb dL_law_47 (by decide) ?_
          refine lv_goto (tgt := 52) hx hb dL_law_48 (by decide) ?_
          exact t_L_law_52 C0 N hN hX hbl hLx hsz hrr hxc (c0 := c0 + 2217)  (by omega) h hW hS (lv_sub hl [0, 1] rfl)

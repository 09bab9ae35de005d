/-! The law's small methods (by program: wip/p26/gen/geny.py). -/
noncomputable def f_L_some_0 (N : Nat) (w0 : Int32) (w1 : Int32) : Option (Int32) :=
zg (!(w1 == 0)) (
some ((yus w0 (1 : Int32)) - (yus w0 (1 : Int32)) / w1 * w1))
set_option maxRecDepth 100000 in
set_option maxHeartbeats 8000000 in
theorem t_L_some_0 {p : Program} {l : Launch} {e : Env} {s : State} {m : MethodId} {args : Array Value} {below : List Frame} {meth : Method} {c : Code} {D : va_G} {cy : Nat → ClassId} {x0 lo : Nat} (C0 : yCx p l s m c meth args cL_some 2 wsM_some RL (some .int) D cy lo) (N : Nat) (hN : 10000000 ≤ N) {c0 : Nat} {w0 : Int32} {w1 : Int32} {T : yT} {r : Int32} (hc : c0 + 0 ≤ 0) (h : f_L_some_0 N w0 w1 = some r) {H : Heap} {locs : List Loc} {ls : Array Slot} (hW : yWd D cy x0 lo T H) (hS : va_S (yA lo) s.heap H locs) (hl : lv_has ls 2 [(0, .int w0), (1, .int w1)]) : W p l e (headSpec wsM_some ({ frames := 0, cells := 0, slots := 0, locals := 0 } : Room)).room s m args below meth c H locs (c0) (8 * (c0)) (MQ below (yQi D cy x0 lo r T) args s 0 0 (yA lo)) (F0 m 0 ls []) := by
  obtain ⟨hx, hb, hr, hml, hown, hts, hlocks, hK, hE, hlo, hlt⟩ := id C0
  unfold f_L_some_0 at h
  refine lv_iload_n hx hb dL_some_0 rfl (lv_at hl 0 rfl) ?_
  refine lv_iconst (v := 1) hx hb dL_some_1 (by decide) ?_
  refine lv_iushr (v := yus w0 (1 : Int32)) hx hb dL_some_2 rfl ?_
  refine lv_iload_n hx hb dL_some_3 rfl (lv_at hl 1 rfl) ?_
  obtain ⟨g1, h⟩ := zg_some h
  refine lv_irem hx hb dL_some_4 (zne_of g1) ?_
  exact y_iret hx hb hr hlocks hW hS (Option.some.inj h) rfl dL_some_5 (by omega) (by omega)
noncomputable def f_L_some (N : Nat) (a0 : Int32) (a1 : Int32) : Option (Int32) := f_L_some_0 N a0 a1
set_option maxRecDepth 100000 in
set_option maxHeartbeats 8000000 in
theorem m_L_some (l : Launch) (hlt : l.stackTraces = false) (N : Nat) (hN : 10000000 ≤ N) {D : va_G} {cy : Nat → ClassId} {x0 lo : Nat} {T : yT} {a0 : Int32} {a1 : Int32} {r : Int32} (h : f_L_some N a0 a1 = some r) : Met l yL_some wsM_some ({ frames := 0, cells := 0, slots := 0, locals := 0 } : Room) (yPre D cy x0 lo [.int a0, .int a1] T) (yQi D cy x0 lo r T) 0 0 (yA lo) :=
  y_entry hlt (av := [.int a0, .int a1]) (by decide) rfl rfl (Nat.le_of_ble_eq_true rfl) (fun p e s m args below meth c C0 H locs ls hW hS hl => t_L_some_0 C0 N hN (c0 := 0) (by decide) h hW hS (lv_sub hl [0, 1] rfl))
noncomputable def f_L_does_269 (N : Nat) (w4 : Int32) (w5 : Int32) (s0 : Int32) (s1 : Int32) (T : yT) : Option ((Nat ⊕ Int32) × yT) :=
zbp (y_X6_rankedHead T s1 s0 w4 w5) fun q1 T3 => (
zx q1 (fun k => some (Sum.inl k, T3)) fun r4 => (
some (Sum.inr r4, T3)))
set_option maxRecDepth 100000 in
set_option maxHeartbeats 8000000 in
theorem t_L_does_269 {p : Program} {l : Launch} {e : Env} {s : State} {m : MethodId} {args : Array Value} {below : List Frame} {meth : Method} {c : Code} {D : va_G} {cy : Nat → ClassId} {x0 lo : Nat} (C0 : yCx p l s m c meth args cL_does 6 wsM_does RL (some .int) D cy lo) (N : Nat) (hN : 10000000 ≤ N) (hex : ∀ x ∈ c.exceptionTable.toList, False) {c0 : Nat} {w4 : Int32} {w5 : Int32} {s0 : Int32} {s1 : Int32} {T : yT} {o : Nat ⊕ Int32} {Tr : yT} (hc : c0 + 3 ≤ 11) (h : f_L_does_269 N w4 w5 s0 s1 T = some (o, Tr)) {H : Heap} {locs : List Loc} {ls : Array Slot} (hW : yWd D cy x0 lo T H) (hS : va_S (yA lo) s.heap H locs) (hl : lv_has ls 6 [(4, .int w4), (5, .int w5)]) : W p l e (headSpec wsM_does ({ frames := 16, cells := 11, slots := 88, locals := 419 } : Room)).room s m args below meth c H locs (c0) (8 * (c0)) (vx_MQ below (yY D cy x0 lo zvI o Tr) (yX D cy x0 lo o Tr) args s 11 88 (yA lo)) (F0 m 269 ls [.int s0, .int s1, .ref x0]) := by
  obtain ⟨hx, hb, hr, hml, hown, hts, hlocks, hK, hE, hlo, hlt⟩ := id C0
  unfold f_L_does_269 at h
  refine lv_iload hx hb dL_does_269 (lv_at hl 0 rfl) ?_
  refine lv_iload hx hb dL_does_271 (lv_at hl 1 rfl) ?_
  obtain ⟨q1, T3, e2, h⟩ := zbp_some h
  refine y_xcalli hS (vx_runV (As := [.int s1, .int s0, .int w4, .int w5]) (rest := []) ⟨hx, hb, hml, hown, hts⟩ (n_X6_rankedHead l hlt N hN e2) (cwV 4 hts (gM_X6_rankedHead wsM_up) rfl rfl rfl (by decide +kernel) ⟨Nat.le_of_ble_eq_true rfl, Nat.le_of_ble_eq_true rfl⟩) (y_preV hK hE hlo hW hS [.int s1, .int s0, .int w4, .int w5]) rfl rfl hl.1 rfl (lv_room (Nat.le_of_ble_eq_true rfl)) dL_does_273 ⟨by show c0 + 3 ≤ 11; omega, by show 8 * (c0) + 18 ≤ 88; omega⟩) (fun k hk H locs q9 ce hW hS hce hcv hcl => by subst hk; have h := zx_l h; exact y_xout hex hlocks (congrArg Prod.fst (Option.some.inj h)).symm (congrArg Prod.snd (Option.some.inj h)) hW hS hce hcv hcl (by omega) (by omega)) (fun r4 hk H locs hW hS => ?_)
  subst hk
  have h := zx_r h
  refine W.widen (k := c0 + 3) (n := 8 * (c0 + 3)) (by omega) (by omega) ?_
  exact y_xiret hx hb hr hlocks hW hS (congrArg Prod.fst (Option.some.inj h)) (congrArg Prod.snd (Option.some.inj h)) dL_does_276 (by omega) (by omega)
noncomputable def f_L_does_251 (N : Nat) (w4 : Int32) (s0 : Int32) (s1 : Int32) (T : yT) : Option ((Nat ⊕ Int32) × yT) :=
zbp (y_X6_ranked T s1 s0 w4) fun q1 T3 => (
zx q1 (fun k => some (Sum.inl k, T3)) fun r4 => (
some (Sum.inr r4, T3)))
set_option maxRecDepth 100000 in
set_option maxHeartbeats 8000000 in
theorem t_L_does_251 {p : Program} {l : Launch} {e : Env} {s : State} {m : MethodId} {args : Array Value} {below : List Frame} {meth : Method} {c : Code} {D : va_G} {cy : Nat → ClassId} {x0 lo : Nat} (C0 : yCx p l s m c meth args cL_does 6 wsM_does RL (some .int) D cy lo) (N : Nat) (hN : 10000000 ≤ N) (hex : ∀ x ∈ c.exceptionTable.toList, False) {c0 : Nat} {w4 : Int32} {s0 : Int32} {s1 : Int32} {T : yT} {o : Nat ⊕ Int32} {Tr : yT} (hc : c0 + 2 ≤ 11) (h : f_L_does_251 N w4 s0 s1 T = some (o, Tr)) {H : Heap} {locs : List Loc} {ls : Array Slot} (hW : yWd D cy x0 lo T H) (hS : va_S (yA lo) s.heap H locs) (hl : lv_has ls 6 [(4, .int w4)]) : W p l e (headSpec wsM_does ({ frames := 16, cells := 11, slots := 88, locals := 419 } : Room)).room s m args below meth c H locs (c0) (8 * (c0)) (vx_MQ below (yY D cy x0 lo zvI o Tr) (yX D cy x0 lo o Tr) args s 11 88 (yA lo)) (F0 m 251 ls [.int s0, .int s1, .ref x0]) := by
  obtain ⟨hx, hb, hr, hml, hown, hts, hlocks, hK, hE, hlo, hlt⟩ := id C0
  unfold f_L_does_251 at h
  refine lv_iload hx hb dL_does_251 (lv_at hl 0 rfl) ?_
  obtain ⟨q1, T3, e2, h⟩ := zbp_some h
  refine y_xcalli hS (vx_runV (As := [.int s1, .int s0, .int w4]) (rest := []) ⟨hx, hb, hml, hown, hts⟩ (n_X6_ranked l hlt N hN e2) (cwV 3 hts (gM_X6_ranked wsM_up) rfl rfl rfl (by decide +kernel) ⟨Nat.le_of_ble_eq_true rfl, Nat.le_of_ble_eq_true rfl⟩) (y_preV hK hE hlo hW hS [.int s1, .int s0, .int w4]) rfl rfl hl.1 rfl (lv_room (Nat.le_of_ble_eq_true rfl)) dL_does_253 ⟨by show c0 + 2 ≤ 11; omega, by show 8 * (c0) + 12 ≤ 88; omega⟩) (fun k hk H locs q9 ce hW hS hce hcv hcl => by subst hk; have h := zx_l h; exact y_xout hex hlocks (congrArg Prod.fst (Option.some.inj h)).symm (congrArg Prod.snd (Option.some.inj h)) hW hS hce hcv hcl (by omega) (by omega)) (fun r4 hk H locs hW hS => ?_)
  subst hk
  have h := zx_r h
  refine W.widen (k := c0 + 2) (n := 8 * (c0 + 2)) (by omega) (by omega) ?_
  exact y_xiret hx hb hr hlocks hW hS (congrArg Prod.fst (Option.some.inj h)) (congrArg Prod.snd (Option.some.inj h)) dL_does_256 (by omega) (by omega)
noncomputable def f_L_does_227 (N : Nat) (w4 : Int32) (s0 : Int32) (s1 : Int32) (T : yT) : Option ((Nat ⊕ Int32) × yT) :=
zbp (y_X6_head T s1 s0 w4) fun q1 T3 => (
zx q1 (fun k => some (Sum.inl k, T3)) fun r4 => (
some (Sum.inr r4, T3)))
set_option maxRecDepth 100000 in
set_option maxHeartbeats 8000000 in
theorem t_L_does_227 {p : Program} {l : Launch} {e : Env} {s : State} {m : MethodId} {args : Array Value} {below : List Frame} {meth : Method} {c : Code} {D : va_G} {cy : Nat → ClassId} {x0 lo : Nat} (C0 : yCx p l s m c meth args cL_does 6 wsM_does RL (some .int) D cy lo) (N : Nat) (hN : 10000000 ≤ N) (hex : ∀ x ∈ c.exceptionTable.toList, False) {c0 : Nat} {w4 : Int32} {s0 : Int32} {s1 : Int32} {T : yT} {o : Nat ⊕ Int32} {Tr : yT} (hc : c0 + 3 ≤ 11) (h : f_L_does_227 N w4 s0 s1 T = some (o, Tr)) {H : Heap} {locs : List Loc} {ls : Array Slot} (hW : yWd D cy x0 lo T H) (hS : va_S (yA lo) s.heap H locs) (hl : lv_has ls 6 [(4, .int w4)]) : W p l e (headSpec wsM_does ({ frames := 16, cells := 11, slots := 88, locals := 419 } : Room)).room s m args below meth c H locs (c0) (8 * (c0)) (vx_MQ below (yY D cy x0 lo zvI o Tr) (yX D cy x0 lo o Tr) args s 11 88 (yA lo)) (F0 m 227 ls [.int s0, .int s1, .ref x0]) := by
  obtain ⟨hx, hb, hr, hml, hown, hts, hlocks, hK, hE, hlo, hlt⟩ := id C0
  unfold f_L_does_227 at h
  refine lv_iload hx hb dL_does_227 (lv_at hl 0 rfl) ?_
  obtain ⟨q1, T3, e2, h⟩ := zbp_some h
  refine y_xcalli hS (vx_runV (As := [.int s1, .int s0, .int w4]) (rest := []) ⟨hx, hb, hml, hown, hts⟩ (n_X6_head l hlt N hN e2) (cwV 3 hts (gM_X6_head wsM_up) rfl rfl rfl (by decide +kernel) ⟨Nat.le_of_ble_eq_true rfl, Nat.le_of_ble_eq_true rfl⟩) (y_preV hK hE hlo hW hS [.int s1, .int s0, .int w4]) rfl rfl hl.1 rfl (lv_room (Nat.le_of_ble_eq_true rfl)) dL_does_229 ⟨by show c0 + 3 ≤ 11; omega, by show 8 * (c0) + 18 ≤ 88; omega⟩) (fun k hk H locs q9 ce hW hS hce hcv hcl => by subst hk; have h := zx_l h; exact y_xout hex hlocks (congrArg Prod.fst (Option.some.inj h)).symm (congrArg Prod.snd (Option.some.inj h)) hW hS hce hcv hcl (by omega) (by omega)) (fun r4 hk H locs hW hS => ?_)
  subst hk
  have h := zx_r h
  refine W.widen (k := c0 + 3) (n := 8 * (c0 + 3)) (by omega) (by omega) ?_
  exact y_xiret hx hb hr hlocks hW hS (congrArg Prod.fst (Option.some.inj h)) (congrArg Prod.snd (Option.some.inj h)) dL_does_232 (by omega) (by omega)
noncomputable def f_L_does_211 (N : Nat) (s0 : Int32) (s1 : Int32) (T : yT) : Option ((Nat ⊕ Int32) × yT) :=
zbp (y_X6_bestByTrying T s1 s0) fun q1 T3 => (
zx q1 (fun k => some (Sum.inl k, T3)) fun r4 => (
some (Sum.inr r4, T3)))
set_option maxRecDepth 100000 in
set_option maxHeartbeats 8000000 in
theorem t_L_does_211 {p : Program} {l : Launch} {e : Env} {s : State} {m : MethodId} {args : Array Value} {below : List Frame} {meth : Method} {c : Code} {D : va_G} {cy : Nat → ClassId} {x0 lo : Nat} (C0 : yCx p l s m c meth args cL_does 6 wsM_does RL (some .int) D cy lo) (N : Nat) (hN : 10000000 ≤ N) (hex : ∀ x ∈ c.exceptionTable.toList, False) {c0 : Nat} {s0 : Int32} {s1 : Int32} {T : yT} {o : Nat ⊕ Int32} {Tr : yT} (hc : c0 + 2 ≤ 11) (h : f_L_does_211 N s0 s1 T = some (o, Tr)) {H : Heap} {locs : List Loc} {ls : Array Slot} (hW : yWd D cy x0 lo T H) (hS : va_S (yA lo) s.heap H locs) (hl : lv_has ls 6 []) : W p l e (headSpec wsM_does ({ frames := 16, cells := 11, slots := 88, locals := 419 } : Room)).room s m args below meth c H locs (c0) (8 * (c0)) (vx_MQ below (yY D cy x0 lo zvI o Tr) (yX D cy x0 lo o Tr) args s 11 88 (yA lo)) (F0 m 211 ls [.int s0, .int s1, .ref x0]) := by
  obtain ⟨hx, hb, hr, hml, hown, hts, hlocks, hK, hE, hlo, hlt⟩ := id C0
  unfold f_L_does_211 at h
  obtain ⟨q1, T3, e2, h⟩ := zbp_some h
  refine y_xcalli hS (vx_runV (As := [.int s1, .int s0]) (rest := []) ⟨hx, hb, hml, hown, hts⟩ (n_X6_bestByTrying l hlt N hN e2) (cwV 2 hts (gM_X6_bestByTrying wsM_up) rfl rfl rfl (by decide +kernel) ⟨Nat.le_of_ble_eq_true rfl, Nat.le_of_ble_eq_true rfl⟩) (y_preV hK hE hlo hW hS [.int s1, .int s0]) rfl rfl hl.1 rfl (lv_room (Nat.le_of_ble_eq_true rfl)) dL_does_211 ⟨by show c0 + 2 ≤ 11; omega, by show 8 * (c0) + 12 ≤ 88; omega⟩) (fun k hk H locs q9 ce hW hS hce hcv hcl => by subst hk; have h := zx_l h; exact y_xout hex hlocks (congrArg Prod.fst (Option.some.inj h)).symm (congrArg Prod.snd (Option.some.inj h)) hW hS hce hcv hcl (by omega) (by omega)) (fun r4 hk H locs hW hS => ?_)
  subst hk
  have h := zx_r h
  refine W.widen (k := c0 + 2) (n := 8 * (c0 + 2)) (by omega) (by omega) ?_
  exact y_xiret hx hb hr hlocks hW hS (congrArg Prod.fst (Option.some.inj h)) (congrArg Prod.snd (Option.some.inj h)) dL_does_214 (by omega) (by omega)
noncomputable def f_L_does_195 (N : Nat) (s0 : Int32) (s1 : Int32) (T : yT) : Option ((Nat ⊕ Int32) × yT) :=
zbp (y_X6_best T s1 s0) fun q1 T3 => (
zx q1 (fun k => some (Sum.inl k, T3)) fun r4 => (
some (Sum.inr r4, T3)))
set_option maxRecDepth 100000 in
set_option maxHeartbeats 8000000 in
theorem t_L_does_195 {p : Program} {l : Launch} {e : Env} {s : State} {m : MethodId} {args : Array Value} {below : List Frame} {meth : Method} {c : Code} {D : va_G} {cy : Nat → ClassId} {x0 lo : Nat} (C0 : yCx p l s m c meth args cL_does 6 wsM_does RL (some .int) D cy lo) (N : Nat) (hN : 10000000 ≤ N) (hex : ∀ x ∈ c.exceptionTable.toList, False) {c0 : Nat} {s0 : Int32} {s1 : Int32} {T : yT} {o : Nat ⊕ Int32} {Tr : yT} (hc : c0 + 2 ≤ 11) (h : f_L_does_195 N s0 s1 T = some (o, Tr)) {H : Heap} {locs : List Loc} {ls : Array Slot} (hW : yWd D cy x0 lo T H) (hS : va_S (yA lo) s.heap H locs) (hl : lv_has ls 6 []) : W p l e (headSpec wsM_does ({ frames := 16, cells := 11, slots := 88, locals := 419 } : Room)).room s m args below meth c H locs (c0) (8 * (c0)) (vx_MQ below (yY D cy x0 lo zvI o Tr) (yX D cy x0 lo o Tr) args s 11 88 (yA lo)) (F0 m 195 ls [.int s0, .int s1, .ref x0]) := by
  obtain ⟨hx, hb, hr, hml, hown, hts, hlocks, hK, hE, hlo, hlt⟩ := id C0
  unfold f_L_does_195 at h
  obtain ⟨q1, T3, e2, h⟩ := zbp_some h
  refine y_xcalli hS (vx_runV (As := [.int s1, .int s0]) (rest := []) ⟨hx, hb, hml, hown, hts⟩ (n_X6_best l hlt N hN e2) (cwV 2 hts (gM_X6_best wsM_up) rfl rfl rfl (by decide +kernel) ⟨Nat.le_of_ble_eq_true rfl, Nat.le_of_ble_eq_true rfl⟩) (y_preV hK hE hlo hW hS [.int s1, .int s0]) rfl rfl hl.1 rfl (lv_room (Nat.le_of_ble_eq_true rfl)) dL_does_195 ⟨by show c0 + 2 ≤ 11; omega, by show 8 * (c0) + 12 ≤ 88; omega⟩) (fun k hk H locs q9 ce hW hS hce hcv hcl => by subst hk; have h := zx_l h; exact y_xout hex hlocks (congrArg Prod.fst (Option.some.inj h)).symm (congrArg Prod.snd (Option.some.inj h)) hW hS hce hcv hcl (by omega) (by omega)) (fun r4 hk H locs hW hS => ?_)
  subst hk
  have h := zx_r h
  refine W.widen (k := c0 + 2) (n := 8 * (c0 + 2)) (by omega) (by omega) ?_
  exact y_xiret hx hb hr hlocks hW hS (congrArg Prod.fst (Option.some.inj h)) (congrArg Prod.snd (Option.some.inj h)) dL_does_198 (by omega) (by omega)
noncomputable def f_L_does_179 (N : Nat) (s0 : Int32) (s1 : Int32) (T : yT) : Option ((Nat ⊕ Int32) × yT) :=
zbp (y_X6_trees T s1 s0) fun q1 T3 => (
zx q1 (fun k => some (Sum.inl k, T3)) fun r4 => (
some (Sum.inr r4, T3)))
set_option maxRecDepth 100000 in
set_option maxHeartbeats 8000000 in
theorem t_L_does_179 {p : Program} {l : Launch} {e : Env} {s : State} {m : MethodId} {args : Array Value} {below : List Frame} {meth : Method} {c : Code} {D : va_G} {cy : Nat → ClassId} {x0 lo : Nat} (C0 : yCx p l s m c meth args cL_does 6 wsM_does RL (some .int) D cy lo) (N : Nat) (hN : 10000000 ≤ N) (hex : ∀ x ∈ c.exceptionTable.toList, False) {c0 : Nat} {s0 : Int32} {s1 : Int32} {T : yT} {o : Nat ⊕ Int32} {Tr : yT} (hc : c0 + 1 ≤ 11) (h : f_L_does_179 N s0 s1 T = some (o, Tr)) {H : Heap} {locs : List Loc} {ls : Array Slot} (hW : yWd D cy x0 lo T H) (hS : va_S (yA lo) s.heap H locs) (hl : lv_has ls 6 []) : W p l e (headSpec wsM_does ({ frames := 16, cells := 11, slots := 88, locals := 419 } : Room)).room s m args below meth c H locs (c0) (8 * (c0)) (vx_MQ below (yY D cy x0 lo zvI o Tr) (yX D cy x0 lo o Tr) args s 11 88 (yA lo)) (F0 m 179 ls [.int s0, .int s1, .ref x0]) := by
  obtain ⟨hx, hb, hr, hml, hown, hts, hlocks, hK, hE, hlo, hlt⟩ := id C0
  unfold f_L_does_179 at h
  obtain ⟨q1, T3, e2, h⟩ := zbp_some h
  refine y_xcalli hS (vx_runV (As := [.int s1, .int s0]) (rest := []) ⟨hx, hb, hml, hown, hts⟩ (n_X6_trees l hlt N hN e2) (cwV 2 hts (gM_X6_trees wsM_up) rfl rfl rfl (by decide +kernel) ⟨Nat.le_of_ble_eq_true rfl, Nat.le_of_ble_eq_true rfl⟩) (y_preV hK hE hlo hW hS [.int s1, .int s0]) rfl rfl hl.1 rfl (lv_room (Nat.le_of_ble_eq_true rfl)) dL_does_179 ⟨by show c0 + 1 ≤ 11; omega, by show 8 * (c0) + 6 ≤ 88; omega⟩) (fun k hk H locs q9 ce hW hS hce hcv hcl => by subst hk; have h := zx_l h; exact y_xout hex hlocks (congrArg Prod.fst (Option.some.inj h)).symm (congrArg Prod.snd (Option.some.inj h)) hW hS hce hcv hcl (by omega) (by omega)) (fun r4 hk H locs hW hS => ?_)
  subst hk
  have h := zx_r h
  refine W.widen (k := c0 + 1) (n := 8 * (c0 + 1)) (by omega) (by omega) ?_
  exact y_xiret hx hb hr hlocks hW hS (congrArg Prod.fst (Option.some.inj h)) (congrArg Prod.snd (Option.some.inj h)) dL_does_182 (by omega) (by omega)
noncomputable def f_L_does_154 (N : Nat) (s0 : Int32) (s1 : Int32) (s2 : Int32) (s3 : Int32) (T : yT) : Option ((Nat ⊕ Int32) × yT) :=
zbp (y_X6_feature T s3 s2 s1 s0) fun q1 T3 => (
zx q1 (fun k => some (Sum.inl k, T3)) fun r4 => (
some (Sum.inr r4, T3)))
set_option maxRecDepth 100000 in
set_option maxHeartbeats 8000000 in
theorem t_L_does_154 {p : Program} {l : Launch} {e : Env} {s : State} {m : MethodId} {args : Array Value} {below : List Frame} {meth : Method} {c : Code} {D : va_G} {cy : Nat → ClassId} {x0 lo : Nat} (C0 : yCx p l s m c meth args cL_does 6 wsM_does RL (some .int) D cy lo) (N : Nat) (hN : 10000000 ≤ N) (hex : ∀ x ∈ c.exceptionTable.toList, False) {c0 : Nat} {s0 : Int32} {s1 : Int32} {s2 : Int32} {s3 : Int32} {T : yT} {o : Nat ⊕ Int32} {Tr : yT} (hc : c0 + 3 ≤ 11) (h : f_L_does_154 N s0 s1 s2 s3 T = some (o, Tr)) {H : Heap} {locs : List Loc} {ls : Array Slot} (hW : yWd D cy x0 lo T H) (hS : va_S (yA lo) s.heap H locs) (hl : lv_has ls 6 []) : W p l e (headSpec wsM_does ({ frames := 16, cells := 11, slots := 88, locals := 419 } : Room)).room s m args below meth c H locs (c0) (8 * (c0)) (vx_MQ below (yY D cy x0 lo zvI o Tr) (yX D cy x0 lo o Tr) args s 11 88 (yA lo)) (F0 m 154 ls [.int s0, .int s1, .int s2, .int s3, .ref x0]) := by
  obtain ⟨hx, hb, hr, hml, hown, hts, hlocks, hK, hE, hlo, hlt⟩ := id C0
  unfold f_L_does_154 at h
  obtain ⟨q1, T3, e2, h⟩ := zbp_some h
  refine y_xcalli hS (vx_runV (As := [.int s3, .int s2, .int s1, .int s0]) (rest := []) ⟨hx, hb, hml, hown, hts⟩ (n_X6_feature l hlt N hN e2) (cwV 4 hts (gM_X6_feature wsM_up) rfl rfl rfl (by decide +kernel) ⟨Nat.le_of_ble_eq_true rfl, Nat.le_of_ble_eq_true rfl⟩) (y_preV hK hE hlo hW hS [.int s3, .int s2, .int s1, .int s0]) rfl rfl hl.1 rfl (lv_room (Nat.le_of_ble_eq_true rfl)) dL_does_154 ⟨by show c0 + 3 ≤ 11; omega, by show 8 * (c0) + 18 ≤ 88; omega⟩) (fun k hk H locs q9 ce hW hS hce hcv hcl => by subst hk; have h := zx_l h; exact y_xout hex hlocks (congrArg Prod.fst (Option.some.inj h)).symm (congrArg Prod.snd (Option.some.inj h)) hW hS hce hcv hcl (by omega) (by omega)) (fun r4 hk H locs hW hS => ?_)
  subst hk
  have h := zx_r h
  refine W.widen (k := c0 + 3) (n := 8 * (c0 + 3)) (by omega) (by omega) ?_
  exact y_xiret hx hb hr hlocks hW hS (congrArg Prod.fst (Option.some.inj h)) (congrArg Prod.snd (Option.some.inj h)) dL_does_157 (by omega) (by omega)
noncomputable def f_L_does_0 (N : Nat) (w1 : Int32) (w2 : Int32) (w3 : Int32) (w4 : Int32) (w5 : Int32) (T : yT) : Option ((Nat ⊕ Int32) × yT) :=
(if w1.toInt = 0 then
zbp (y_X6_addSentence T) fun q1 T3 => (
zx q1 (fun k => some (Sum.inl k, T3)) fun r4 => (
some (Sum.inr r4, T3)))
else
(if w1.toInt = 1 then
zbp (y_X6_addWord T w2 w3) fun q6 T8 => (
zx q6 (fun k => some (Sum.inl k, T8)) fun r9 => (
some (Sum.inr r9, T8)))
else
(if w1.toInt = 2 then
zbp (y_X6_setWeight T w2 w3) fun q11 T13 => (
zx q11 (fun k => some (Sum.inl k, T13)) fun r14 => (
some (Sum.inr r14, T13)))
else
(if w1.toInt = 3 then
zbp (y_X6_mark T w2 w3 w4 w5) fun q16 T18 => (
zx q16 (fun k => some (Sum.inl k, T18)) fun r19 => (
some (Sum.inr r19, T18)))
else
(if w1.toInt = 4 then
zbp (y_X6_correct T w2 w3 w4) fun q21 T23 => (
zx q21 (fun k => some (Sum.inl k, T23)) fun r24 => (
some (Sum.inr r24, T23)))
else
(if w1.toInt = 5 then
zbp (y_X6_mend T w2) fun q26 T28 => (
zx q26 (fun k => some (Sum.inl k, T28)) fun r29 => (
some (Sum.inr r29, T28)))
else
(if w1.toInt = 6 then
zbp (y_X6_rollBack T) fun q31 T33 => (
zx q31 (fun k => some (Sum.inl k, T33)) fun r34 => (
some (Sum.inr r34, T33)))
else
(if w1.toInt = 7 then
(if w5 = (1 : Int32) then
f_L_does_154 N (1 : Int32) w4 w3 w2 T
else
f_L_does_154 N (0 : Int32) w4 w3 w2 T)
else
(if w1.toInt = 8 then
zbp (y_X6_score T w2 w3 w4) fun q38 T40 => (
zx q38 (fun k => some (Sum.inl k, T40)) fun r41 => (
some (Sum.inr r41, T40)))
else
(if w1.toInt = 9 then
(if w3 = (1 : Int32) then
f_L_does_179 N (1 : Int32) w2 T
else
f_L_does_179 N (0 : Int32) w2 T)
else
(if w1.toInt = 10 then
(if w3 = (1 : Int32) then
f_L_does_195 N (1 : Int32) w2 T
else
f_L_does_195 N (0 : Int32) w2 T)
else
(if w1.toInt = 11 then
(if w3 = (1 : Int32) then
f_L_does_211 N (1 : Int32) w2 T
else
f_L_does_211 N (0 : Int32) w2 T)
else
(if w1.toInt = 12 then
(if w3 = (1 : Int32) then
f_L_does_227 N w4 (1 : Int32) w2 T
else
f_L_does_227 N w4 (0 : Int32) w2 T)
else
(if w1.toInt = 13 then
zbp (y_X6_crossings T w2) fun q51 T53 => (
zx q51 (fun k => some (Sum.inl k, T53)) fun r54 => (
some (Sum.inr r54, T53)))
else
(if w1.toInt = 14 then
(if w3 = (1 : Int32) then
f_L_does_251 N w4 (1 : Int32) w2 T
else
f_L_does_251 N w4 (0 : Int32) w2 T)
else
(if w1.toInt = 15 then
(if w3 = (1 : Int32) then
f_L_does_269 N w4 w5 (1 : Int32) w2 T
else
f_L_does_269 N w4 w5 (0 : Int32) w2 T)
else
(if w1.toInt = 16 then
zbp (y_X6_matched T w2) fun q60 T62 => (
zx q60 (fun k => some (Sum.inl k, T62)) fun r63 => (
some (Sum.inr r63, T62)))
else
(if w1.toInt = 17 then
zbp (y_X6_words T w2) fun q65 T67 => (
zx q65 (fun k => some (Sum.inl k, T67)) fun r68 => (
some (Sum.inr r68, T67)))
else
zbp (y_X6_weight T w2) fun q70 T72 => (
zx q70 (fun k => some (Sum.inl k, T72)) fun r73 => (
some (Sum.inr r73, T72)))))))))))))))))))))
set_option maxRecDepth 100000 in
set_option maxHeartbeats 8000000 in
theorem t_L_does_0 {p : Program} {l : Launch} {e : Env} {s : State} {m : MethodId} {args : Array Value} {below : List Frame} {meth : Method} {c : Code} {D : va_G} {cy : Nat → ClassId} {x0 lo : Nat} (C0 : yCx p l s m c meth args cL_does 6 wsM_does RL (some .int) D cy lo) (N : Nat) (hN : 10000000 ≤ N) (hex : ∀ x ∈ c.exceptionTable.toList, False) {c0 : Nat} {w1 : Int32} {w2 : Int32} {w3 : Int32} {w4 : Int32} {w5 : Int32} {T : yT} {o : Nat ⊕ Int32} {Tr : yT} (hc : c0 + 11 ≤ 11) (h : f_L_does_0 N w1 w2 w3 w4 w5 T = some (o, Tr)) {H : Heap} {locs : List Loc} {ls : Array Slot} (hW : yWd D cy x0 lo T H) (hS : va_S (yA lo) s.heap H locs) (hl : lv_has ls 6 [(0, .ref x0), (1, .int w1), (2, .int w2), (3, .int w3), (4, .int w4), (5, .int w5)]) : W p l e (headSpec wsM_does ({ frames := 16, cells := 11, slots := 88, locals := 419 } : Room)).room s m args below meth c H locs (c0) (8 * (c0)) (vx_MQ below (yY D cy x0 lo zvI o Tr) (yX D cy x0 lo o Tr) args s 11 88 (yA lo)) (F0 m 0 ls []) := by
  obtain ⟨hx, hb, hr, hml, hown, hts, hlocks, hK, hE, hlo, hlt⟩ := id C0
  unfold f_L_does_0 at h
  refine lv_iload_n hx hb dL_does_0 rfl (lv_at hl 1 rfl) ?_
  by_cases v5 : w1.toInt = 0
  · have h := zip v5 h
    refine lv_tableIn hx hb dL_does_1 (by rw [v5]; decide) (by rw [v5]; decide) (off := 87) (by rw [v5]; rfl) (tgt := 88) (by decide) ?_
    refine lv_aload_n hx hb dL_does_88 rfl (lv_at hl 0 rfl) ?_
    obtain ⟨q1, T3, e2, h⟩ := zbp_some h
    refine y_xcalli hS (vx_runV (As := []) (rest := []) ⟨hx, hb, hml, hown, hts⟩ (n_X6_addSentence l hlt N hN e2) (cwV 0 hts (gM_X6_addSentence wsM_up) rfl rfl rfl (by decide +kernel) ⟨Nat.le_of_ble_eq_true rfl, Nat.le_of_ble_eq_true rfl⟩) (y_preV hK hE hlo hW hS []) rfl rfl hl.1 rfl (lv_room (Nat.le_of_ble_eq_true rfl)) dL_does_89 ⟨by show c0 + 11 ≤ 11; omega, by show 8 * (c0) + 74 ≤ 88; omega⟩) (fun k hk H locs q9 ce hW hS hce hcv hcl => by subst hk; have h := zx_l h; exact y_xout hex hlocks (congrArg Prod.fst (Option.some.inj h)).symm (congrArg Prod.snd (Option.some.inj h)) hW hS hce hcv hcl (by omega) (by omega)) (fun r4 hk H locs hW hS => ?_)
    subst hk
    have h := zx_r h
    refine W.widen (k := c0 + 11) (n := 8 * (c0 + 11)) (by omega) (by omega) ?_
    exact y_xiret hx hb hr hlocks hW hS (congrArg Prod.fst (Option.some.inj h)) (congrArg Prod.snd (Option.some.inj h)) dL_does_92 (by omega) (by omega)
  have h := zin v5 h
  by_cases v10 : w1.toInt = 1
  · have h := zip v10 h
    refine lv_tableIn hx hb dL_does_1 (by rw [v10]; decide) (by rw [v10]; decide) (off := 92) (by rw [v10]; rfl) (tgt := 93) (by decide) ?_
    refine lv_aload_n hx hb dL_does_93 rfl (lv_at hl 0 rfl) ?_
    refine lv_iload_n hx hb dL_does_94 rfl (lv_at hl 2 rfl) ?_
    refine lv_iload_n hx hb dL_does_95 rfl (lv_at hl 3 rfl) ?_
    obtain ⟨q6, T8, e7, h⟩ := zbp_some h
    refine y_xcalli hS (vx_runV (As := [.int w2, .int w3]) (rest := []) ⟨hx, hb, hml, hown, hts⟩ (n_X6_addWord l hlt N hN e7) (cwV 2 hts (gM_X6_addWord wsM_up) rfl rfl rfl (by decide +kernel) ⟨Nat.le_of_ble_eq_true rfl, Nat.le_of_ble_eq_true rfl⟩) (y_preV hK hE hlo hW hS [.int w2, .int w3]) rfl rfl hl.1 rfl (lv_room (Nat.le_of_ble_eq_true rfl)) dL_does_96 ⟨by show c0 + 2 ≤ 11; omega, by show 8 * (c0) + 12 ≤ 88; omega⟩) (fun k hk H locs q9 ce hW hS hce hcv hcl => by subst hk; have h := zx_l h; exact y_xout hex hlocks (congrArg Prod.fst (Option.some.inj h)).symm (congrArg Prod.snd (Option.some.inj h)) hW hS hce hcv hcl (by omega) (by omega)) (fun r9 hk H locs hW hS => ?_)
    subst hk
    have h := zx_r h
    refine W.widen (k := c0 + 2) (n := 8 * (c0 + 2)) (by omega) (by omega) ?_
    exact y_xiret hx hb hr hlocks hW hS (congrArg Prod.fst (Option.some.inj h)) (congrArg Prod.snd (Option.some.inj h)) dL_does_99 (by omega) (by omega)
  have h := zin v10 h
  by_cases v15 : w1.toInt = 2
  · have h := zip v15 h
    refine lv_tableIn hx hb dL_does_1 (by rw [v15]; decide) (by rw [v15]; decide) (off := 99) (by rw [v15]; rfl) (tgt := 100) (by decide) ?_
    refine lv_aload_n hx hb dL_does_100 rfl (lv_at hl 0 rfl) ?_
    refine lv_iload_n hx hb dL_does_101 rfl (lv_at hl 2 rfl) ?_
    refine lv_iload_n hx hb dL_does_102 rfl (lv_at hl 3 rfl) ?_
    obtain ⟨q11, T13, e12, h⟩ := zbp_some h
    refine y_xcalli hS (vx_runV (As := [.int w2, .int w3]) (rest := []) ⟨hx, hb, hml, hown, hts⟩ (n_X6_setWeight l hlt N hN e12) (cwV 2 hts (gM_X6_setWeight wsM_up) rfl rfl rfl (by decide +kernel) ⟨Nat.le_of_ble_eq_true rfl, Nat.le_of_ble_eq_true rfl⟩) (y_preV hK hE hlo hW hS [.int w2, .int w3]) rfl rfl hl.1 rfl (lv_room (Nat.le_of_ble_eq_true rfl)) dL_does_103 ⟨by show c0 + 2 ≤ 11; omega, by show 8 * (c0) + 12 ≤ 88; omega⟩) (fun k hk H locs q9 ce hW hS hce hcv hcl => by subst hk; have h := zx_l h; exact y_xout hex hlocks (congrArg Prod.fst (Option.some.inj h)).symm (congrArg Prod.snd (Option.some.inj h)) hW hS hce hcv hcl (by omega) (by omega)) (fun r14 hk H locs hW hS => ?_)
    subst hk
    have h := zx_r h
    refine W.widen (k := c0 + 2) (n := 8 * (c0 + 2)) (by omega) (by omega) ?_
    exact y_xiret hx hb hr hlocks hW hS (congrArg Prod.fst (Option.some.inj h)) (congrArg Prod.snd (Option.some.inj h)) dL_does_106 (by omega) (by omega)
  have h := zin v15 h
  by_cases v20 : w1.toInt = 3
  · have h := zip v20 h
    refine lv_tableIn hx hb dL_does_1 (by rw [v20]; decide) (by rw [v20]; decide) (off := 106) (by rw [v20]; rfl) (tgt := 107) (by decide) ?_
    refine lv_aload_n hx hb dL_does_107 rfl (lv_at hl 0 rfl) ?_
    refine lv_iload_n hx hb dL_does_108 rfl (lv_at hl 2 rfl) ?_
    refine lv_iload_n hx hb dL_does_109 rfl (lv_at hl 3 rfl) ?_
    refine lv_iload hx hb dL_does_110 (lv_at hl 4 rfl) ?_
    refine lv_iload hx hb dL_does_112 (lv_at hl 5 rfl) ?_
    obtain ⟨q16, T18, e17, h⟩ := zbp_some h
    refine y_xcalli hS (vx_runV (As := [.int w2, .int w3, .int w4, .int w5]) (rest := []) ⟨hx, hb, hml, hown, hts⟩ (n_X6_mark l hlt N hN e17) (cwV 4 hts (gM_X6_mark wsM_up) rfl rfl rfl (by decide +kernel) ⟨Nat.le_of_ble_eq_true rfl, Nat.le_of_ble_eq_true rfl⟩) (y_preV hK hE hlo hW hS [.int w2, .int w3, .int w4, .int w5]) rfl rfl hl.1 rfl (lv_room (Nat.le_of_ble_eq_true rfl)) dL_does_114 ⟨by show c0 + 4 ≤ 11; omega, by show 8 * (c0) + 24 ≤ 88; omega⟩) (fun k hk H locs q9 ce hW hS hce hcv hcl => by subst hk; have h := zx_l h; exact y_xout hex hlocks (congrArg Prod.fst (Option.some.inj h)).symm (congrArg Prod.snd (Option.some.inj h)) hW hS hce hcv hcl (by omega) (by omega)) (fun r19 hk H locs hW hS => ?_)
    subst hk
    have h := zx_r h
    refine W.widen (k := c0 + 4) (n := 8 * (c0 + 4)) (by omega) (by omega) ?_
    exact y_xiret hx hb hr hlocks hW hS (congrArg Prod.fst (Option.some.inj h)) (congrArg Prod.snd (Option.some.inj h)) dL_does_117 (by omega) (by omega)
  have h := zin v20 h
  by_cases v25 : w1.toInt = 4
  · have h := zip v25 h
    refine lv_tableIn hx hb dL_does_1 (by rw [v25]; decide) (by rw [v25]; decide) (off := 117) (by rw [v25]; rfl) (tgt := 118) (by decide) ?_
    refine lv_aload_n hx hb dL_does_118 rfl (lv_at hl 0 rfl) ?_
    refine lv_iload_n hx hb dL_does_119 rfl (lv_at hl 2 rfl) ?_
    refine lv_iload_n hx hb dL_does_120 rfl (lv_at hl 3 rfl) ?_
    refine lv_iload hx hb dL_does_121 (lv_at hl 4 rfl) ?_
    obtain ⟨q21, T23, e22, h⟩ := zbp_some h
    refine y_xcalli hS (vx_runV (As := [.int w2, .int w3, .int w4]) (rest := []) ⟨hx, hb, hml, hown, hts⟩ (n_X6_correct l hlt N hN e22) (cwV 3 hts (gM_X6_correct wsM_up) rfl rfl rfl (by decide +kernel) ⟨Nat.le_of_ble_eq_true rfl, Nat.le_of_ble_eq_true rfl⟩) (y_preV hK hE hlo hW hS [.int w2, .int w3, .int w4]) rfl rfl hl.1 rfl (lv_room (Nat.le_of_ble_eq_true rfl)) dL_does_123 ⟨by show c0 + 3 ≤ 11; omega, by show 8 * (c0) + 18 ≤ 88; omega⟩) (fun k hk H locs q9 ce hW hS hce hcv hcl => by subst hk; have h := zx_l h; exact y_xout hex hlocks (congrArg Prod.fst (Option.some.inj h)).symm (congrArg Prod.snd (Option.some.inj h)) hW hS hce hcv hcl (by omega) (by omega)) (fun r24 hk H locs hW hS => ?_)
    subst hk
    have h := zx_r h
    refine W.widen (k := c0 + 3) (n := 8 * (c0 + 3)) (by omega) (by omega) ?_
    exact y_xiret hx hb hr hlocks hW hS (congrArg Prod.fst (Option.some.inj h)) (congrArg Prod.snd (Option.some.inj h)) dL_does_126 (by omega) (by omega)
  have h := zin v25 h
  by_cases v30 : w1.toInt = 5
  · have h := zip v30 h
    refine lv_tableIn hx hb dL_does_1 (by rw [v30]; decide) (by rw [v30]; decide) (off := 126) (by rw [v30]; rfl) (tgt := 127) (by decide) ?_
    refine lv_aload_n hx hb dL_does_127 rfl (lv_at hl 0 rfl) ?_
    refine lv_iload_n hx hb dL_does_128 rfl (lv_at hl 2 rfl) ?_
    obtain ⟨q26, T28, e27, h⟩ := zbp_some h
    refine y_xcalli hS (vx_runV (As := [.int w2]) (rest := []) ⟨hx, hb, hml, hown, hts⟩ (n_X6_mend l hlt N hN e27) (cwV 1 hts (gM_X6_mend wsM_up) rfl rfl rfl (by decide +kernel) ⟨Nat.le_of_ble_eq_true rfl, Nat.le_of_ble_eq_true rfl⟩) (y_preV hK hE hlo hW hS [.int w2]) rfl rfl hl.1 rfl (lv_room (Nat.le_of_ble_eq_true rfl)) dL_does_129 ⟨by show c0 + 3 ≤ 11; omega, by show 8 * (c0) + 18 ≤ 88; omega⟩) (fun k hk H locs q9 ce hW hS hce hcv hcl => by subst hk; have h := zx_l h; exact y_xout hex hlocks (congrArg Prod.fst (Option.some.inj h)).symm (congrArg Prod.snd (Option.some.inj h)) hW hS hce hcv hcl (by omega) (by omega)) (fun r29 hk H locs hW hS => ?_)
    subst hk
    have h := zx_r h
    refine W.widen (k := c0 + 3) (n := 8 * (c0 + 3)) (by omega) (by omega) ?_
    exact y_xiret hx hb hr hlocks hW hS (congrArg Prod.fst (Option.some.inj h)) (congrArg Prod.snd (Option.some.inj h)) dL_does_132 (by omega) (by omega)
  have h := zin v30 h
  by_cases v35 : w1.toInt = 6
  · have h := zip v35 h
    refine lv_tableIn hx hb dL_does_1 (by rw [v35]; decide) (by rw [v35]; decide) (off := 132) (by rw [v35]; rfl) (tgt := 133) (by decide) ?_
    refine lv_aload_n hx hb dL_does_133 rfl (lv_at hl 0 rfl) ?_
    obtain ⟨q31, T33, e32, h⟩ := zbp_some h
    refine y_xcalli hS (vx_runV (As := []) (rest := []) ⟨hx, hb, hml, hown, hts⟩ (n_X6_rollBack l hlt N hN e32) (cwV 0 hts (gM_X6_rollBack wsM_up) rfl rfl rfl (by decide +kernel) ⟨Nat.le_of_ble_eq_true rfl, Nat.le_of_ble_eq_true rfl⟩) (y_preV hK hE hlo hW hS []) rfl rfl hl.1 rfl (lv_room (Nat.le_of_ble_eq_true rfl)) dL_does_134 ⟨by show c0 + 1 ≤ 11; omega, by show 8 * (c0) + 6 ≤ 88; omega⟩) (fun k hk H locs q9 ce hW hS hce hcv hcl => by subst hk; have h := zx_l h; exact y_xout hex hlocks (congrArg Prod.fst (Option.some.inj h)).symm (congrArg Prod.snd (Option.some.inj h)) hW hS hce hcv hcl (by omega) (by omega)) (fun r34 hk H locs hW hS => ?_)
    subst hk
    have h := zx_r h
    refine W.widen (k := c0 + 1) (n := 8 * (c0 + 1)) (by omega) (by omega) ?_
    exact y_xiret hx hb hr hlocks hW hS (congrArg Prod.fst (Option.some.inj h)) (congrArg Prod.snd (Option.some.inj h)) dL_does_137 (by omega) (by omega)
  have h := zin v35 h
  by_cases v37 : w1.toInt = 7
  · have h := zip v37 h
    refine lv_tableIn hx hb dL_does_1 (by rw [v37]; decide) (by rw [v37]; decide) (off := 137) (by rw [v37]; rfl) (tgt := 138) (by decide) ?_
    refine lv_aload_n hx hb dL_does_138 rfl (lv_at hl 0 rfl) ?_
    refine lv_iload_n hx hb dL_does_139 rfl (lv_at hl 2 rfl) ?_
    refine lv_iload_n hx hb dL_does_140 rfl (lv_at hl 3 rfl) ?_
    refine lv_iload hx hb dL_does_141 (lv_at hl 4 rfl) ?_
    refine lv_iload hx hb dL_does_143 (lv_at hl 5 rfl) ?_
    refine lv_iconst (v := 1) hx hb dL_does_145 (by decide) ?_
    refine lv_icmp_ne (tgt := 153) hx hb dL_does_146 (by decide) (fun c36 => ?_) (fun c36 => ?_)
    · have h := zin c36 h
      refine lv_iconst (v := 0) hx hb dL_does_153 (by decide) ?_
      exact t_L_does_154 C0 N hN hex (c0 := c0)  (by omega) h hW hS (lv_sub hl [] rfl)
    · have h := zip c36 h
      refine lv_iconst (v := 1) hx hb dL_does_149 (by decide) ?_
      refine lv_goto (tgt := 154) hx hb dL_does_150 (by decide) ?_
      exact t_L_does_154 C0 N hN hex (c0 := c0)  (by omega) h hW hS (lv_sub hl [] rfl)
  have h := zin v37 h
  by_cases v42 : w1.toInt = 8
  · have h := zip v42 h
    refine lv_tableIn hx hb dL_does_1 (by rw [v42]; decide) (by rw [v42]; decide) (off := 157) (by rw [v42]; rfl) (tgt := 158) (by decide) ?_
    refine lv_aload_n hx hb dL_does_158 rfl (lv_at hl 0 rfl) ?_
    refine lv_iload_n hx hb dL_does_159 rfl (lv_at hl 2 rfl) ?_
    refine lv_iload_n hx hb dL_does_160 rfl (lv_at hl 3 rfl) ?_
    refine lv_iload hx hb dL_does_161 (lv_at hl 4 rfl) ?_
    obtain ⟨q38, T40, e39, h⟩ := zbp_some h
    refine y_xcalli hS (vx_runV (As := [.int w2, .int w3, .int w4]) (rest := []) ⟨hx, hb, hml, hown, hts⟩ (n_X6_score l hlt N hN e39) (cwV 3 hts (gM_X6_score wsM_up) rfl rfl rfl (by decide +kernel) ⟨Nat.le_of_ble_eq_true rfl, Nat.le_of_ble_eq_true rfl⟩) (y_preV hK hE hlo hW hS [.int w2, .int w3, .int w4]) rfl rfl hl.1 rfl (lv_room (Nat.le_of_ble_eq_true rfl)) dL_does_163 ⟨by show c0 + 3 ≤ 11; omega, by show 8 * (c0) + 18 ≤ 88; omega⟩) (fun k hk H locs q9 ce hW hS hce hcv hcl => by subst hk; have h := zx_l h; exact y_xout hex hlocks (congrArg Prod.fst (Option.some.inj h)).symm (congrArg Prod.snd (Option.some.inj h)) hW hS hce hcv hcl (by omega) (by omega)) (fun r41 hk H locs hW hS => ?_)
    subst hk
    have h := zx_r h
    refine W.widen (k := c0 + 3) (n := 8 * (c0 + 3)) (by omega) (by omega) ?_
    exact y_xiret hx hb hr hlocks hW hS (congrArg Prod.fst (Option.some.inj h)) (congrArg Prod.snd (Option.some.inj h)) dL_does_166 (by omega) (by omega)
  have h := zin v42 h
  by_cases v44 : w1.toInt = 9
  · have h := zip v44 h
    refine lv_tableIn hx hb dL_does_1 (by rw [v44]; decide) (by rw [v44]; decide) (off := 166) (by rw [v44]; rfl) (tgt := 167) (by decide) ?_
    refine lv_aload_n hx hb dL_does_167 rfl (lv_at hl 0 rfl) ?_
    refine lv_iload_n hx hb dL_does_168 rfl (lv_at hl 2 rfl) ?_
    refine lv_iload_n hx hb dL_does_169 rfl (lv_at hl 3 rfl) ?_
    refine lv_iconst (v := 1) hx hb dL_does_170 (by decide) ?_
    refine lv_icmp_ne (tgt := 178) hx hb dL_does_171 (by decide) (fun c43 => ?_) (fun c43 => ?_)
    · have h := zin c43 h
      refine lv_iconst (v := 0) hx hb dL_does_178 (by decide) ?_
      exact t_L_does_179 C0 N hN hex (c0 := c0)  (by omega) h hW hS (lv_sub hl [] rfl)
    · have h := zip c43 h
      refine lv_iconst (v := 1) hx hb dL_does_174 (by decide) ?_
      refine lv_goto (tgt := 179) hx hb dL_does_175 (by decide) ?_
      exact t_L_does_179 C0 N hN hex (c0 := c0)  (by omega) h hW hS (lv_sub hl [] rfl)
  have h := zin v44 h
  by_cases v46 : w1.toInt = 10
  · have h := zip v46 h
    refine lv_tableIn hx hb dL_does_1 (by rw [v46]; decide) (by rw [v46]; decide) (off := 182) (by rw [v46]; rfl) (tgt := 183) (by decide) ?_
    refine lv_aload_n hx hb dL_does_183 rfl (lv_at hl 0 rfl) ?_
    refine lv_iload_n hx hb dL_does_184 rfl (lv_at hl 2 rfl) ?_
    refine lv_iload_n hx hb dL_does_185 rfl (lv_at hl 3 rfl) ?_
    refine lv_iconst (v := 1) hx hb dL_does_186 (by decide) ?_
    refine lv_icmp_ne (tgt := 194) hx hb dL_does_187 (by decide) (fun c45 => ?_) (fun c45 => ?_)
    · have h := zin c45 h
      refine lv_iconst (v := 0) hx hb dL_does_194 (by decide) ?_
      exact t_L_does_195 C0 N hN hex (c0 := c0)  (by omega) h hW hS (lv_sub hl [] rfl)
    · have h := zip c45 h
      refine lv_iconst (v := 1) hx hb dL_does_190 (by decide) ?_
      refine lv_goto (tgt := 195) hx hb dL_does_191 (by decide) ?_
      exact t_L_does_195 C0 N hN hex (c0 := c0)  (by omega) h hW hS (lv_sub hl [] rfl)
  have h := zin v46 h
  by_cases v48 : w1.toInt = 11
  · have h := zip v48 h
    refine lv_tableIn hx hb dL_does_1 (by rw [v48]; decide) (by rw [v48]; decide) (off := 198) (by rw [v48]; rfl) (tgt := 199) (by decide) ?_
    refine lv_aload_n hx hb dL_does_199 rfl (lv_at hl 0 rfl) ?_
    refine lv_iload_n hx hb dL_does_200 rfl (lv_at hl 2 rfl) ?_
    refine lv_iload_n hx hb dL_does_201 rfl (lv_at hl 3 rfl) ?_
    refine lv_iconst (v := 1) hx hb dL_does_202 (by decide) ?_
    refine lv_icmp_ne (tgt := 210) hx hb dL_does_203 (by decide) (fun c47 => ?_) (fun c47 => ?_)
    · have h := zin c47 h
      refine lv_iconst (v := 0) hx hb dL_does_210 (by decide) ?_
      exact t_L_does_211 C0 N hN hex (c0 := c0)  (by omega) h hW hS (lv_sub hl [] rfl)
    · have h := zip c47 h
      refine lv_iconst (v := 1) hx hb dL_does_206 (by decide) ?_
      refine lv_goto (tgt := 211) hx hb dL_does_207 (by decide) ?_
      exact t_L_does_211 C0 N hN hex (c0 := c0)  (by omega) h hW hS (lv_sub hl [] rfl)
  have h := zin v48 h
  by_cases v50 : w1.toInt = 12
  · have h := zip v50 h
    refine lv_tableIn hx hb dL_does_1 (by rw [v50]; decide) (by rw [v50]; decide) (off := 214) (by rw [v50]; rfl) (tgt := 215) (by decide) ?_
    refine lv_aload_n hx hb dL_does_215 rfl (lv_at hl 0 rfl) ?_
    refine lv_iload_n hx hb dL_does_216 rfl (lv_at hl 2 rfl) ?_
    refine lv_iload_n hx hb dL_does_217 rfl (lv_at hl 3 rfl) ?_
    refine lv_iconst (v := 1) hx hb dL_does_218 (by decide) ?_
    refine lv_icmp_ne (tgt := 226) hx hb dL_does_219 (by decide) (fun c49 => ?_) (fun c49 => ?_)
    · have h := zin c49 h
      refine lv_iconst (v := 0) hx hb dL_does_226 (by decide) ?_
      exact t_L_does_227 C0 N hN hex (c0 := c0)  (by omega) h hW hS (lv_sub hl [4] rfl)
    · have h := zip c49 h
      refine lv_iconst (v := 1) hx hb dL_does_222 (by decide) ?_
      refine lv_goto (tgt := 227) hx hb dL_does_223 (by decide) ?_
      exact t_L_does_227 C0 N hN hex (c0 := c0)  (by omega) h hW hS (lv_sub hl [4] rfl)
  have h := zin v50 h
  by_cases v55 : w1.toInt = 13
  · have h := zip v55 h
    refine lv_tableIn hx hb dL_does_1 (by rw [v55]; decide) (by rw [v55]; decide) (off := 232) (by rw [v55]; rfl) (tgt := 233) (by decide) ?_
    refine lv_aload_n hx hb dL_does_233 rfl (lv_at hl 0 rfl) ?_
    refine lv_iload_n hx hb dL_does_234 rfl (lv_at hl 2 rfl) ?_
    obtain ⟨q51, T53, e52, h⟩ := zbp_some h
    refine y_xcalli hS (vx_runV (As := [.int w2]) (rest := []) ⟨hx, hb, hml, hown, hts⟩ (n_X6_crossings l hlt N hN e52) (cwV 1 hts (gM_X6_crossings wsM_up) rfl rfl rfl (by decide +kernel) ⟨Nat.le_of_ble_eq_true rfl, Nat.le_of_ble_eq_true rfl⟩) (y_preV hK hE hlo hW hS [.int w2]) rfl rfl hl.1 rfl (lv_room (Nat.le_of_ble_eq_true rfl)) dL_does_235 ⟨by show c0 + 2 ≤ 11; omega, by show 8 * (c0) + 12 ≤ 88; omega⟩) (fun k hk H locs q9 ce hW hS hce hcv hcl => by subst hk; have h := zx_l h; exact y_xout hex hlocks (congrArg Prod.fst (Option.some.inj h)).symm (congrArg Prod.snd (Option.some.inj h)) hW hS hce hcv hcl (by omega) (by omega)) (fun r54 hk H locs hW hS => ?_)
    subst hk
    have h := zx_r h
    refine W.widen (k := c0 + 2) (n := 8 * (c0 + 2)) (by omega) (by omega) ?_
    exact y_xiret hx hb hr hlocks hW hS (congrArg Prod.fst (Option.some.inj h)) (congrArg Prod.snd (Option.some.inj h)) dL_does_238 (by omega) (by omega)
  have h := zin v55 h
  by_cases v57 : w1.toInt = 14
  · have h := zip v57 h
    refine lv_tableIn hx hb dL_does_1 (by rw [v57]; decide) (by rw [v57]; decide) (off := 238) (by rw [v57]; rfl) (tgt := 239) (by decide) ?_
    refine lv_aload_n hx hb dL_does_239 rfl (lv_at hl 0 rfl) ?_
    refine lv_iload_n hx hb dL_does_240 rfl (lv_at hl 2 rfl) ?_
    refine lv_iload_n hx hb dL_does_241 rfl (lv_at hl 3 rfl) ?_
    refine lv_iconst (v := 1) hx hb dL_does_242 (by decide) ?_
    refine lv_icmp_ne (tgt := 250) hx hb dL_does_243 (by decide) (fun c56 => ?_) (fun c56 => ?_)
    · have h := zin c56 h
      refine lv_iconst (v := 0) hx hb dL_does_250 (by decide) ?_
      exact t_L_does_251 C0 N hN hex (c0 := c0)  (by omega) h hW hS (lv_sub hl [4] rfl)
    · have h := zip c56 h
      refine lv_iconst (v := 1) hx hb dL_does_246 (by decide) ?_
      refine lv_goto (tgt := 251) hx hb dL_does_247 (by decide) ?_
      exact t_L_does_251 C0 N hN hex (c0 := c0)  (by omega) h hW hS (lv_sub hl [4] rfl)
  have h := zin v57 h
  by_cases v59 : w1.toInt = 15
  · have h := zip v59 h
    refine lv_tableIn hx hb dL_does_1 (by rw [v59]; decide) (by rw [v59]; decide) (off := 256) (by rw [v59]; rfl) (tgt := 257) (by decide) ?_
    refine lv_aload_n hx hb dL_does_257 rfl (lv_at hl 0 rfl) ?_
    refine lv_iload_n hx hb dL_does_258 rfl (lv_at hl 2 rfl) ?_
    refine lv_iload_n hx hb dL_does_259 rfl (lv_at hl 3 rfl) ?_
    refine lv_iconst (v := 1) hx hb dL_does_260 (by decide) ?_
    refine lv_icmp_ne (tgt := 268) hx hb dL_does_261 (by decide) (fun c58 => ?_) (fun c58 => ?_)
    · have h := zin c58 h
      refine lv_iconst (v := 0) hx hb dL_does_268 (by decide) ?_
      exact t_L_does_269 C0 N hN hex (c0 := c0)  (by omega) h hW hS (lv_sub hl [4, 5] rfl)
    · have h := zip c58 h
      refine lv_iconst (v := 1) hx hb dL_does_264 (by decide) ?_
      refine lv_goto (tgt := 269) hx hb dL_does_265 (by decide) ?_
      exact t_L_does_269 C0 N hN hex (c0 := c0)  (by omega) h hW hS (lv_sub hl [4, 5] rfl)
  have h := zin v59 h
  by_cases v64 : w1.toInt = 16
  · have h := zip v64 h
    refine lv_tableIn hx hb dL_does_1 (by rw [v64]; decide) (by rw [v64]; decide) (off := 276) (by rw [v64]; rfl) (tgt := 277) (by decide) ?_
    refine lv_aload_n hx hb dL_does_277 rfl (lv_at hl 0 rfl) ?_
    refine lv_iload_n hx hb dL_does_278 rfl (lv_at hl 2 rfl) ?_
    obtain ⟨q60, T62, e61, h⟩ := zbp_some h
    refine y_xcalli hS (vx_runV (As := [.int w2]) (rest := []) ⟨hx, hb, hml, hown, hts⟩ (n_X6_matched l hlt N hN e61) (cwV 1 hts (gM_X6_matched wsM_up) rfl rfl rfl (by decide +kernel) ⟨Nat.le_of_ble_eq_true rfl, Nat.le_of_ble_eq_true rfl⟩) (y_preV hK hE hlo hW hS [.int w2]) rfl rfl hl.1 rfl (lv_room (Nat.le_of_ble_eq_true rfl)) dL_does_279 ⟨by show c0 + 2 ≤ 11; omega, by show 8 * (c0) + 12 ≤ 88; omega⟩) (fun k hk H locs q9 ce hW hS hce hcv hcl => by subst hk; have h := zx_l h; exact y_xout hex hlocks (congrArg Prod.fst (Option.some.inj h)).symm (congrArg Prod.snd (Option.some.inj h)) hW hS hce hcv hcl (by omega) (by omega)) (fun r63 hk H locs hW hS => ?_)
    subst hk
    have h := zx_r h
    refine W.widen (k := c0 + 2) (n := 8 * (c0 + 2)) (by omega) (by omega) ?_
    exact y_xiret hx hb hr hlocks hW hS (congrArg Prod.fst (Option.some.inj h)) (congrArg Prod.snd (Option.some.inj h)) dL_does_282 (by omega) (by omega)
  have h := zin v64 h
  by_cases v69 : w1.toInt = 17
  · have h := zip v69 h
    refine lv_tableIn hx hb dL_does_1 (by rw [v69]; decide) (by rw [v69]; decide) (off := 282) (by rw [v69]; rfl) (tgt := 283) (by decide) ?_
    refine lv_aload_n hx hb dL_does_283 rfl (lv_at hl 0 rfl) ?_
    refine lv_iload_n hx hb dL_does_284 rfl (lv_at hl 2 rfl) ?_
    obtain ⟨q65, T67, e66, h⟩ := zbp_some h
    refine y_xcalli hS (vx_runV (As := [.int w2]) (rest := []) ⟨hx, hb, hml, hown, hts⟩ (n_X6_words l hlt N hN e66) (cwV 1 hts (gM_X6_words wsM_up) rfl rfl rfl (by decide +kernel) ⟨Nat.le_of_ble_eq_true rfl, Nat.le_of_ble_eq_true rfl⟩) (y_preV hK hE hlo hW hS [.int w2]) rfl rfl hl.1 rfl (lv_room (Nat.le_of_ble_eq_true rfl)) dL_does_285 ⟨by show c0 + 1 ≤ 11; omega, by show 8 * (c0) + 6 ≤ 88; omega⟩) (fun k hk H locs q9 ce hW hS hce hcv hcl => by subst hk; have h := zx_l h; exact y_xout hex hlocks (congrArg Prod.fst (Option.some.inj h)).symm (congrArg Prod.snd (Option.some.inj h)) hW hS hce hcv hcl (by omega) (by omega)) (fun r68 hk H locs hW hS => ?_)
    subst hk
    have h := zx_r h
    refine W.widen (k := c0 + 1) (n := 8 * (c0 + 1)) (by omega) (by omega) ?_
    exact y_xiret hx hb hr hlocks hW hS (congrArg Prod.fst (Option.some.inj h)) (congrArg Prod.snd (Option.some.inj h)) dL_does_288 (by omega) (by omega)
  have h := zin v69 h
  refine lv_tableOut hx hb dL_does_1 (by omega) (tgt := 289) (by decide) ?_
  refine lv_aload_n hx hb dL_does_289 rfl (lv_at hl 0 rfl) ?_
  refine lv_iload_n hx hb dL_does_290 rfl (lv_at hl 2 rfl) ?_
  obtain ⟨q70, T72, e71, h⟩ := zbp_some h
  refine y_xcalli hS (vx_runV (As := [.int w2]) (rest := []) ⟨hx, hb, hml, hown, hts⟩ (n_X6_weight l hlt N hN e71) (cwV 1 hts (gM_X6_weight wsM_up) rfl rfl rfl (by decide +kernel) ⟨Nat.le_of_ble_eq_true rfl, Nat.le_of_ble_eq_true rfl⟩) (y_preV hK hE hlo hW hS [.int w2]) rfl rfl hl.1 rfl (lv_room (Nat.le_of_ble_eq_true rfl)) dL_does_291 ⟨by show c0 + 1 ≤ 11; omega, by show 8 * (c0) + 6 ≤ 88; omega⟩) (fun k hk H locs q9 ce hW hS hce hcv hcl => by subst hk; have h := zx_l h; exact y_xout hex hlocks (congrArg Prod.fst (Option.some.inj h)).symm (congrArg Prod.snd (Option.some.inj h)) hW hS hce hcv hcl (by omega) (by omega)) (fun r73 hk H locs hW hS => ?_)
  subst hk
  have h := zx_r h
  refine W.widen (k := c0 + 1) (n := 8 * (c0 + 1)) (by omega) (by omega) ?_
  exact y_xiret hx hb hr hlocks hW hS (congrArg Prod.fst (Option.some.inj h)) (congrArg Prod.snd (Option.some.inj h)) dL_does_294 (by omega) (by omega)
noncomputable def f_L_does (N : Nat) (T : yT) (a1 : Int32) (a2 : Int32) (a3 : Int32) (a4 : Int32) (a5 : Int32) : Option ((Nat ⊕ Int32) × yT) := f_L_does_0 N a1 a2 a3 a4 a5 T
set_option maxRecDepth 100000 in
set_option maxHeartbeats 8000000 in
theorem m_L_does (l : Launch) (hlt : l.stackTraces = false) (N : Nat) (hN : 10000000 ≤ N) {D : va_G} {cy : Nat → ClassId} {x0 lo : Nat} {T : yT} {a1 : Int32} {a2 : Int32} {a3 : Int32} {a4 : Int32} {a5 : Int32} {o : Nat ⊕ Int32} {Tr : yT} (h : f_L_does N T a1 a2 a3 a4 a5 = some (o, Tr)) : vx_Met l yL_does wsM_does ({ frames := 16, cells := 11, slots := 88, locals := 419 } : Room) (yPre D cy x0 lo [.ref x0, .int a1, .int a2, .int a3, .int a4, .int a5] T) (yY D cy x0 lo zvI o Tr) (yX D cy x0 lo o Tr) 11 88 (yA lo) :=
  y_xentry hlt (av := [.ref x0, .int a1, .int a2, .int a3, .int a4, .int a5]) (by decide) rfl rfl (Nat.le_of_ble_eq_true rfl) (fun p e s m args below meth c C0 hex H locs ls hW hS hl => t_L_does_0 C0 N hN hex (c0 := 0) (by decide) h hW hS (lv_sub hl [0, 1, 2, 3, 4, 5] rfl))
noncomputable def f_L_call (N : Nat) (T : yT) (a1 a2 a3 a4 a5 : Int32) : Option (Int32 × yT) := zbp (f_L_does N T a1 a2 a3 a4 a5) fun q T2 => zx q (fun k => if k = 1 then some (((-8001) : Int32), T2) else if k = 2 then some (((-8002) : Int32), T2) else if k = 3 then some (((-8003) : Int32), T2) else none) fun r => some (r, T2)
set_option maxRecDepth 100000 in
set_option maxHeartbeats 8000000 in
theorem m_L_call (l : Launch) (hlt : l.stackTraces = false) (N : Nat) (hN : 10000000 ≤ N) {D : va_G} {cy : Nat → ClassId} {x0 lo : Nat} {T Tr : yT} {a1 a2 a3 a4 a5 r : Int32} (h : f_L_call N T a1 a2 a3 a4 a5 = some (r, Tr)) : Met l yL_call wsM_call ({ frames := 17, cells := 11, slots := 88, locals := 444 } : Room) (yPre D cy x0 lo [.ref x0, .int a1, .int a2, .int a3, .int a4, .int a5] T) (yQi D cy x0 lo r Tr) 11 88 (yA lo) := by
  refine y_wentry hlt (hh := [(0, 11, 12, 14), (0, 11, 18, 16), (0, 11, 24, 18)]) (av := [.ref x0, .int a1, .int a2, .int a3, .int a4, .int a5]) (by decide) rfl rfl (Nat.le_of_ble_eq_true rfl) (fun p e s m args below meth c C0 htb H locs ls hW hS hl => ?_)
  obtain ⟨hx, hb, hr, hml, hown, hts, hlocks, hK, hE, hlo, hlt⟩ := id C0
  unfold f_L_call at h
  obtain ⟨q, T2, e1, h⟩ := zbp_some h
  refine lv_aload_n hx hb dL_call_0 rfl (lv_at hl 0 rfl) ?_
  refine lv_iload_n hx hb dL_call_1 rfl (lv_at hl 1 rfl) ?_
  refine lv_iload_n hx hb dL_call_2 rfl (lv_at hl 2 rfl) ?_
  refine lv_iload_n hx hb dL_call_3 rfl (lv_at hl 3 rfl) ?_
  refine lv_iload hx hb dL_call_4 (lv_at hl 4 rfl) ?_
  refine lv_iload hx hb dL_call_6 (lv_at hl 5 rfl) ?_
  refine y_xcalli hS (vx_runS (As := [.ref x0, .int a1, .int a2, .int a3, .int a4, .int a5]) (rest := []) ⟨hx, hb, hml, hown, hts⟩ (m_L_does l hlt N hN e1) (va_cwS 6 hts (gM_L_does wsM_up) rfl rfl rfl (by decide +kernel) ⟨Nat.le_of_ble_eq_true rfl, Nat.le_of_ble_eq_true rfl⟩) (y_preS hK hE hlo hW hS [.ref x0, .int a1, .int a2, .int a3, .int a4, .int a5]) rfl rfl hl.1 rfl (lv_room (Nat.le_of_ble_eq_true rfl)) dL_call_8 ⟨Nat.le_of_ble_eq_true rfl, Nat.le_of_ble_eq_true rfl⟩) (fun k hk H locs q9 ce hW hS hce hcv hcl => ?_) (fun r5 hk H locs hW hS => ?_)
  · subst hk
    have h := zx_l h
    by_cases hk1 : k = 1
    · subst hk1
      have h := zip rfl h
      refine vx_catch (own := RL) (name := "java/lang/IndexOutOfBoundsException") (E := "java/lang/IndexOutOfBoundsException") hown [] ⟨0, 11, 12, 14⟩ [⟨0, 11, 18, 16⟩, ⟨0, 11, 24, 18⟩] htb (fun z hz => by simp at hz) (by decide) (by decide) (hts (.classLink RL 14 "java/lang/IndexOutOfBoundsException") (by decide +kernel)) (va_Nw.use rfl (hE.1 (.castable "java/lang/IndexOutOfBoundsException" "java/lang/IndexOutOfBoundsException") (by decide +kernel))) hce hcv hcl ?_
      refine lv_astore (lv' := [(6, .ref q9), (0, .ref x0), (1, .int a1), (2, .int a2), (3, .int a3), (4, .int a4), (5, .int a5)]) hx hb dL_call_12 hl (by decide) rfl (fun ls hl => ?_)
      refine lv_sipush (v := -8001) hx hb dL_call_14 (by decide) ?_
      exact y_iret hx hb hr hlocks hW hS (congrArg Prod.fst (Option.some.inj h)) (congrArg Prod.snd (Option.some.inj h)) dL_call_17 (Nat.le_of_ble_eq_true rfl) (Nat.le_of_ble_eq_true rfl)
    have h := zin hk1 h
    by_cases hk2 : k = 2
    · subst hk2
      have h := zip rfl h
      refine vx_catch (own := RL) (name := "java/lang/IllegalArgumentException") (E := "java/lang/IllegalArgumentException") hown [⟨0, 11, 12, 14⟩] ⟨0, 11, 18, 16⟩ [⟨0, 11, 24, 18⟩] htb (fun z hz => by
            simp only [List.mem_cons, List.not_mem_nil, or_false] at hz
            rcases hz with rfl
            · exact Or.inr ⟨by decide, "java/lang/IndexOutOfBoundsException", hts (.classLink RL 14 "java/lang/IndexOutOfBoundsException") (by decide +kernel), hE.2.2.2.2.1 ("java/lang/IllegalArgumentException", "java/lang/IndexOutOfBoundsException") (by decide)⟩
            ) (by decide) (by decide) (hts (.classLink RL 16 "java/lang/IllegalArgumentException") (by decide +kernel)) (va_Nw.use rfl (hE.1 (.castable "java/lang/IllegalArgumentException" "java/lang/IllegalArgumentException") (by decide +kernel))) hce hcv hcl ?_
      refine lv_astore (lv' := [(6, .ref q9), (0, .ref x0), (1, .int a1), (2, .int a2), (3, .int a3), (4, .int a4), (5, .int a5)]) hx hb dL_call_18 hl (by decide) rfl (fun ls hl => ?_)
      refine lv_sipush (v := -8002) hx hb dL_call_20 (by decide) ?_
      exact y_iret hx hb hr hlocks hW hS (congrArg Prod.fst (Option.some.inj h)) (congrArg Prod.snd (Option.some.inj h)) dL_call_23 (Nat.le_of_ble_eq_true rfl) (Nat.le_of_ble_eq_true rfl)
    have h := zin hk2 h
    by_cases hk3 : k = 3
    · subst hk3
      have h := zip rfl h
      refine vx_catch (own := RL) (name := "java/lang/IllegalStateException") (E := "java/lang/IllegalStateException") hown [⟨0, 11, 12, 14⟩, ⟨0, 11, 18, 16⟩] ⟨0, 11, 24, 18⟩ [] htb (fun z hz => by
            simp only [List.mem_cons, List.not_mem_nil, or_false] at hz
            rcases hz with rfl | rfl
            · exact Or.inr ⟨by decide, "java/lang/IndexOutOfBoundsException", hts (.classLink RL 14 "java/lang/IndexOutOfBoundsException") (by decide +kernel), hE.2.2.2.2.1 ("java/lang/IllegalStateException", "java/lang/IndexOutOfBoundsException") (by decide)⟩
            · exact Or.inr ⟨by decide, "java/lang/IllegalArgumentException", hts (.classLink RL 16 "java/lang/IllegalArgumentException") (by decide +kernel), hE.2.2.2.2.1 ("java/lang/IllegalStateException", "java/lang/IllegalArgumentException") (by decide)⟩
            ) (by decide) (by decide) (hts (.classLink RL 18 "java/lang/IllegalStateException") (by decide +kernel)) (va_Nw.use rfl (hE.1 (.castable "java/lang/IllegalStateException" "java/lang/IllegalStateException") (by decide +kernel))) hce hcv hcl ?_
      refine lv_astore (lv' := [(6, .ref q9), (0, .ref x0), (1, .int a1), (2, .int a2), (3, .int a3), (4, .int a4), (5, .int a5)]) hx hb dL_call_24 hl (by decide) rfl (fun ls hl => ?_)
      refine lv_sipush (v := -8003) hx hb dL_call_26 (by decide) ?_
      exact y_iret hx hb hr hlocks hW hS (congrArg Prod.fst (Option.some.inj h)) (congrArg Prod.snd (Option.some.inj h)) dL_call_29 (Nat.le_of_ble_eq_true rfl) (Nat.le_of_ble_eq_true rfl)
    have h := zin hk3 h
    cases h
  · subst hk
    have h := zx_r h
    exact y_iret hx hb hr hlocks hW hS (congrArg Prod.fst (Option.some.inj h)) (congrArg Prod.snd (Option.some.inj h)) dL_call_11 (Nat.le_of_ble_eq_true rfl) (Nat.le_of_ble_eq_true rfl)

noncomputable def f_L_weights_8 (N : Nat) : Nat → Int64 → Int32 → yT → Option (Int64 × yT)
  | 0, _, _, _ => none
  | n + 1, w1, w3, T =>
    (if (28 : Int32) ≤ w3 then
    some (w1, T)
    else
    zbp (y_X6_weight T w3) fun q2 T4 => (
    zx q2 (fun _ => none) fun r5 => (
    zbp (y_X6_average T4 w3) fun q6 T8 => (
    zx q6 (fun _ => none) fun r9 => (
    zg (yn64 (FP.dmul r9 (4634204016564240384 : UInt64))) (
    f_L_weights_8 N n (((w1 * (2003 : Int64)) + (r5.toInt64 * (7 : Int64))) + (FP.d2l (FP.dmul r9 (4634204016564240384 : UInt64)))) (w3 + 1) T8))))))
set_option maxRecDepth 100000 in
set_option maxHeartbeats 8000000 in
theorem t_L_weights_8 {p : Program} {l : Launch} {e : Env} {s : State} {m : MethodId} {args : Array Value} {below : List Frame} {meth : Method} {c : Code} {D : va_G} {cy : Nat → ClassId} {x0 lo : Nat} (C0 : yCx p l s m c meth args cL_weights 4 wsM_weights RL (some .long) D cy lo) (N : Nat) (hN : 10000000 ≤ N) {r : Int64} {Tr : yT} : ∀ (n c0 : Nat) {w1 : Int64} {w3 : Int32} {T : yT}, c0 + n * 2 + 0 ≤ 58 → f_L_weights_8 N n w1 w3 T = some (r, Tr) → ∀ {H : Heap} {locs : List Loc} {ls : Array Slot}, yWd D cy x0 lo T H → va_S (yA lo) s.heap H locs → lv_has ls 4 [(0, .ref x0), (1, .long w1), (3, .int w3)] → W p l e (headSpec wsM_weights ({ frames := 8, cells := 58, slots := 464, locals := 131 } : Room)).room s m args below meth c H locs (c0) (8 * (c0)) (MQ below (yQl D cy x0 lo r Tr) args s 58 464 (yA lo)) (F0 m 8 ls []) := by
  obtain ⟨hx, hb, hr, hml, hown, hts, hlocks, hK, hE, hlo, hlt⟩ := id C0
  intro n
  induction n with
  | zero =>
    intro c0 w1 w3 T hc h
    cases (show (none : Option (Int64 × yT)) = some (r, Tr) from h)
  | succ n ih =>
    intro c0 w1 w3 T hc h H locs ls hW hS hl
    rw [f_L_weights_8] at h
    refine lv_iload_n hx hb dL_weights_8 rfl (lv_at hl 2 rfl) ?_
    refine lv_bipush (v := 28) hx hb dL_weights_9 (by decide) ?_
    refine lv_icmp_ge (tgt := 48) hx hb dL_weights_11 (by decide) (fun c1 => ?_) (fun c1 => ?_)
    · have h := zip c1 h
      refine lv_lload_n hx hb dL_weights_48 rfl (lv_at hl 1 rfl) ?_
      exact y_lret hx hb hr hlocks hW hS (congrArg Prod.fst (Option.some.inj h)) (congrArg Prod.snd (Option.some.inj h)) dL_weights_49 (by omega) (by omega)
    · have h := zin c1 h
      refine lv_lload_n hx hb dL_weights_14 rfl (lv_at hl 1 rfl) ?_
      refine lv_ldc2 hx hb hown (hts (.constantLong RL 91 (2003)) (by decide +kernel)) dL_weights_15 ?_
      refine lv_lmul hx hb dL_weights_18 ?_
      refine lv_aload_n hx hb dL_weights_19 rfl (lv_at hl 0 rfl) ?_
      refine lv_iload_n hx hb dL_weights_20 rfl (lv_at hl 2 rfl) ?_
      obtain ⟨q2, T4, e3, h⟩ := zbp_some h
      refine y_xcalli hS (vx_runV (As := [.int w3]) (rest := [.long (w1 * (2003 : Int64))]) ⟨hx, hb, hml, hown, hts⟩ (n_X6_weight l hlt N hN e3) (cwV 1 hts (gM_X6_weight wsM_up) rfl rfl rfl (by decide +kernel) ⟨Nat.le_of_ble_eq_true rfl, Nat.le_of_ble_eq_true rfl⟩) (y_preV hK hE hlo hW hS [.int w3]) rfl rfl hl.1 rfl (lv_room (Nat.le_of_ble_eq_true rfl)) dL_weights_21 ⟨by show c0 + 1 ≤ 58; omega, by show 8 * (c0) + 6 ≤ 464; omega⟩) (fun k hk H locs q9 ce hW hS hce hcv hcl => by subst hk; cases (show (none : Option (Int64 × yT)) = some (r, Tr) from zx_l h)) (fun r5 hk H locs hW hS => ?_)
      subst hk
      have h := zx_r h
      refine W.widen (k := c0 + 1) (n := 8 * (c0 + 1)) (by omega) (by omega) ?_
      refine lv_i2l hx hb dL_weights_24 rfl ?_
      refine lv_ldc2 hx hb hown (hts (.constantLong RL 93 (7)) (by decide +kernel)) dL_weights_25 ?_
      refine lv_lmul hx hb dL_weights_28 ?_
      refine lv_ladd hx hb dL_weights_29 ?_
      refine lv_aload_n hx hb dL_weights_30 rfl (lv_at hl 0 rfl) ?_
      refine lv_iload_n hx hb dL_weights_31 rfl (lv_at hl 2 rfl) ?_
      obtain ⟨q6, T8, e7, h⟩ := zbp_some h
      refine y_xcalld hS (vx_runV (As := [.int w3]) (rest := [.long ((w1 * (2003 : Int64)) + (r5.toInt64 * (7 : Int64)))]) ⟨hx, hb, hml, hown, hts⟩ (n_X6_average l hlt N hN e7) (cwV 1 hts (gM_X6_average wsM_up) rfl rfl rfl (by decide +kernel) ⟨Nat.le_of_ble_eq_true rfl, Nat.le_of_ble_eq_true rfl⟩) (y_preV hK hE hlo hW hS [.int w3]) rfl rfl hl.1 rfl (lv_room (Nat.le_of_ble_eq_true rfl)) dL_weights_32 ⟨by show c0 + 1 + 1 ≤ 58; omega, by show 8 * (c0 + 1) + 6 ≤ 464; omega⟩) (fun k hk H locs q9 ce hW hS hce hcv hcl => by subst hk; cases (show (none : Option (Int64 × yT)) = some (r, Tr) from zx_l h)) (fun r9 hk H locs hW hS => ?_)
      subst hk
      have h := zx_r h
      refine W.widen (k := c0 + 2) (n := 8 * (c0 + 2)) (by omega) (by omega) ?_
      refine lv_ldc2d hx hb hown (hts (.constantDouble RL 99 4634204016564240384) (by decide +kernel)) dL_weights_35 ?_
      obtain ⟨g10, h⟩ := zg_some h
      refine lv_dmul hx hb dL_weights_38 (yn64_of g10) ?_
      refine lv_d2l hx hb dL_weights_39 ?_
      refine lv_ladd hx hb dL_weights_40 ?_
      refine lv_lstore_n (lv' := [(1, .long (((w1 * (2003 : Int64)) + (r5.toInt64 * (7 : Int64))) + (FP.d2l (FP.dmul r9 (4634204016564240384 : UInt64))))), (0, .ref x0), (3, .int w3)]) hx hb dL_weights_41 rfl hl (by decide) rfl (fun ls hl => ?_)
      refine lv_iinc (k := 2) (v := (w3 + 1)) (lv' := [(3, .int (w3 + 1)), (1, .long (((w1 * (2003 : Int64)) + (r5.toInt64 * (7 : Int64))) + (FP.d2l (FP.dmul r9 (4634204016564240384 : UInt64))))), (0, .ref x0)]) hx hb dL_weights_42 hl rfl (by rw [show Int32.ofInt 1 = (1 : Int32) from by decide]) (by decide) rfl (fun ls hl => ?_)
      refine lv_goto (tgt := 8) hx hb dL_weights_45 (by decide) ?_
      exact ih (c0 + 2) (by omega) h hW hS (lv_sub hl [2, 1, 0] rfl)
noncomputable def f_L_weights_0 (N : Nat) (T : yT) : Option (Int64 × yT) :=
zbp (y_X6_steps T) fun q1 T3 => (
zx q1 (fun _ => none) fun r4 => (
f_L_weights_8 N 29 r4.toInt64 (0 : Int32) T3))
set_option maxRecDepth 100000 in
set_option maxHeartbeats 8000000 in
theorem t_L_weights_0 {p : Program} {l : Launch} {e : Env} {s : State} {m : MethodId} {args : Array Value} {below : List Frame} {meth : Method} {c : Code} {D : va_G} {cy : Nat → ClassId} {x0 lo : Nat} (C0 : yCx p l s m c meth args cL_weights 4 wsM_weights RL (some .long) D cy lo) (N : Nat) (hN : 10000000 ≤ N) {c0 : Nat} {T : yT} {r : Int64} {Tr : yT} (hc : c0 + 58 ≤ 58) (h : f_L_weights_0 N T = some (r, Tr)) {H : Heap} {locs : List Loc} {ls : Array Slot} (hW : yWd D cy x0 lo T H) (hS : va_S (yA lo) s.heap H locs) (hl : lv_has ls 4 [(0, .ref x0)]) : W p l e (headSpec wsM_weights ({ frames := 8, cells := 58, slots := 464, locals := 131 } : Room)).room s m args below meth c H locs (c0) (8 * (c0)) (MQ below (yQl D cy x0 lo r Tr) args s 58 464 (yA lo)) (F0 m 0 ls []) := by
  obtain ⟨hx, hb, hr, hml, hown, hts, hlocks, hK, hE, hlo, hlt⟩ := id C0
  unfold f_L_weights_0 at h
  refine lv_aload_n hx hb dL_weights_0 rfl (lv_at hl 0 rfl) ?_
  obtain ⟨q1, T3, e2, h⟩ := zbp_some h
  refine y_xcalli hS (vx_runV (As := []) (rest := []) ⟨hx, hb, hml, hown, hts⟩ (n_X6_steps l hlt N hN e2) (cwV 0 hts (gM_X6_steps wsM_up) rfl rfl rfl (by decide +kernel) ⟨Nat.le_of_ble_eq_true rfl, Nat.le_of_ble_eq_true rfl⟩) (y_preV hK hE hlo hW hS []) rfl rfl hl.1 rfl (lv_room (Nat.le_of_ble_eq_true rfl)) dL_weights_1 ⟨by show c0 + 0 ≤ 58; omega, by show 8 * (c0) + 0 ≤ 464; omega⟩) (fun k hk H locs q9 ce hW hS hce hcv hcl => by subst hk; cases (show (none : Option (Int64 × yT)) = some (r, Tr) from zx_l h)) (fun r4 hk H locs hW hS => ?_)
  subst hk
  have h := zx_r h
  refine lv_i2l hx hb dL_weights_4 rfl ?_
  refine lv_lstore_n (lv' := [(1, .long r4.toInt64), (0, .ref x0)]) hx hb dL_weights_5 rfl hl (by decide) rfl (fun ls hl => ?_)
  refine lv_iconst (v := 0) hx hb dL_weights_6 (by decide) ?_
  refine lv_istore_n (lv' := [(3, .int (0 : Int32)), (1, .long r4.toInt64), (0, .ref x0)]) hx hb dL_weights_7 rfl hl (by decide) rfl (fun ls hl => ?_)
  exact t_L_weights_8 C0 N hN  29 (c0) (by omega) h hW hS (lv_sub hl [2, 1, 0] rfl)
noncomputable def f_L_weights (N : Nat) (T : yT) : Option (Int64 × yT) := f_L_weights_0 N  T
set_option maxRecDepth 100000 in
set_option maxHeartbeats 8000000 in
theorem m_L_weights (l : Launch) (hlt : l.stackTraces = false) (N : Nat) (hN : 10000000 ≤ N) {D : va_G} {cy : Nat → ClassId} {x0 lo : Nat} {T : yT} {r : Int64} {Tr : yT} (h : f_L_weights N T  = some (r, Tr)) : Met l yL_weights wsM_weights ({ frames := 8, cells := 58, slots := 464, locals := 131 } : Room) (yPre D cy x0 lo [.ref x0] T) (yQl D cy x0 lo r Tr) 58 464 (yA lo) :=
  y_entry hlt (av := [.ref x0]) (by decide) rfl rfl (Nat.le_of_ble_eq_true rfl) (fun p e s m args below meth c C0 H locs ls hW hS hl => t_L_weights_0 C0 N hN (c0 := 0) (by decide) h hW hS (lv_sub hl [0] rfl))
noncomputable def f_L_all_117 (N : Nat) (kh17 : Int64 → Int32 → yT → Option (Int64 × yT)) : Nat → Int64 → Int32 → Int32 → yT → Option (Int64 × yT)
  | 0, _, _, _, _ => none
  | n + 1, w1, w3, w4, T =>
    zbp (y_X6_words T w3) fun q1 T3 => (
    zx q1 (fun _ => none) fun r4 => (
    (if r4 < w4 then
    kh17 w1 (w3 + 1) T3
    else
    zbp (y_X6_kind T3 w3 w4) fun q6 T8 => (
    zx q6 (fun _ => none) fun r9 => (
    zbp (f_L_call N T8 (12 : Int32) w3 (1 : Int32) w4 (0 : Int32)) fun q10 T12 => (
    f_L_all_117 N kh17 n ((((w1 * (5 : Int64)) + r9.toInt64) * (7 : Int64)) + q10.toInt64) w3 (w4 + 1) T12))))))
set_option maxRecDepth 100000 in
set_option maxHeartbeats 8000000 in
theorem t_L_all_117 {p : Program} {l : Launch} {e : Env} {s : State} {m : MethodId} {args : Array Value} {below : List Frame} {meth : Method} {c : Code} {D : va_G} {cy : Nat → ClassId} {x0 lo : Nat} (C0 : yCx p l s m c meth args cL_all 5 wsM_all RL (some .long) D cy lo) (N : Nat) (hN : 10000000 ≤ N) {kh17 : Int64 → Int32 → yT → Option (Int64 × yT)} {ch17 : Nat} {r : Int64} {Tr : yT} (hm17 : ch17 ≤ 1101) (hk17 : ∀ {y1 : Int64} {y3 : Int32} {T : yT}, kh17 y1 y3 T = some (r, Tr) → ∀ {H : Heap} {locs : List Loc} {ls : Array Slot}, yWd D cy x0 lo T H → va_S (yA lo) s.heap H locs → lv_has ls 5 [(0, .ref x0), (1, .long y1), (3, .int y3)] → W p l e (headSpec wsM_all ({ frames := 18, cells := 1101, slots := 8808, locals := 470 } : Room)).room s m args below meth c H locs (ch17) (8 * (ch17)) (MQ below (yQl D cy x0 lo r Tr) args s 1101 8808 (yA lo)) (F0 m 17 ls [])) : ∀ (n c0 : Nat) {w1 : Int64} {w3 : Int32} {w4 : Int32} {T : yT}, c0 + n * 14 + 1 ≤ 1101 → c0 + n * 14 + 1 ≤ ch17 → f_L_all_117 N kh17 n w1 w3 w4 T = some (r, Tr) → ∀ {H : Heap} {locs : List Loc} {ls : Array Slot}, yWd D cy x0 lo T H → va_S (yA lo) s.heap H locs → lv_has ls 5 [(0, .ref x0), (1, .long w1), (3, .int w3), (4, .int w4)] → W p l e (headSpec wsM_all ({ frames := 18, cells := 1101, slots := 8808, locals := 470 } : Room)).room s m args below meth c H locs (c0) (8 * (c0)) (MQ below (yQl D cy x0 lo r Tr) args s 1101 8808 (yA lo)) (F0 m 117 ls []) := by
  obtain ⟨hx, hb, hr, hml, hown, hts, hlocks, hK, hE, hlo, hlt⟩ := id C0
  intro n
  induction n with
  | zero =>
    intro c0 w1 w3 w4 T hc he17 h
    cases (show (none : Option (Int64 × yT)) = some (r, Tr) from h)
  | succ n ih =>
    intro c0 w1 w3 w4 T hc he17 h H locs ls hW hS hl
    rw [f_L_all_117] at h
    refine lv_iload hx hb dL_all_117 (lv_at hl 3 rfl) ?_
    refine lv_aload_n hx hb dL_all_119 rfl (lv_at hl 0 rfl) ?_
    refine lv_iload_n hx hb dL_all_120 rfl (lv_at hl 2 rfl) ?_
    obtain ⟨q1, T3, e2, h⟩ := zbp_some h
    refine y_xcalli hS (vx_runV (As := [.int w3]) (rest := [.int w4]) ⟨hx, hb, hml, hown, hts⟩ (n_X6_words l hlt N hN e2) (cwV 1 hts (gM_X6_words wsM_up) rfl rfl rfl (by decide +kernel) ⟨Nat.le_of_ble_eq_true rfl, Nat.le_of_ble_eq_true rfl⟩) (y_preV hK hE hlo hW hS [.int w3]) rfl rfl hl.1 rfl (lv_room (Nat.le_of_ble_eq_true rfl)) dL_all_121 ⟨by show c0 + 1 ≤ 1101; omega, by show 8 * (c0) + 6 ≤ 8808; omega⟩) (fun k hk H locs q9 ce hW hS hce hcv hcl => by subst hk; cases (show (none : Option (Int64 × yT)) = some (r, Tr) from zx_l h)) (fun r4 hk H locs hW hS => ?_)
    subst hk
    have h := zx_r h
    refine W.widen (k := c0 + 1) (n := 8 * (c0 + 1)) (by omega) (by omega) ?_
    refine lv_icmp_gt (tgt := 165) hx hb dL_all_124 (by decide) (fun c5 => ?_) (fun c5 => ?_)
    · have h := zip c5 h
      refine lv_iinc (k := 2) (v := (w3 + 1)) (lv' := [(3, .int (w3 + 1)), (0, .ref x0), (1, .long w1), (4, .int w4)]) hx hb dL_all_165 hl rfl (by rw [show Int32.ofInt 1 = (1 : Int32) from by decide]) (by decide) rfl (fun ls hl => ?_)
      refine lv_goto (tgt := 17) hx hb dL_all_168 (by decide) ?_
      refine W.widen (k := ch17) (n := 8 * ch17) (by omega) (by omega) ?_
      exact hk17 h hW hS (lv_sub hl [1, 2, 0] rfl)
    · have h := zin c5 h
      refine lv_lload_n hx hb dL_all_127 rfl (lv_at hl 1 rfl) ?_
      refine lv_ldc2 hx hb hown (hts (.constantLong RL 119 (5)) (by decide +kernel)) dL_all_128 ?_
      refine lv_lmul hx hb dL_all_131 ?_
      refine lv_aload_n hx hb dL_all_132 rfl (lv_at hl 0 rfl) ?_
      refine lv_iload_n hx hb dL_all_133 rfl (lv_at hl 2 rfl) ?_
      refine lv_iload hx hb dL_all_134 (lv_at hl 3 rfl) ?_
      obtain ⟨q6, T8, e7, h⟩ := zbp_some h
      refine y_xcalli hS (vx_runV (As := [.int w3, .int w4]) (rest := [.long (w1 * (5 : Int64))]) ⟨hx, hb, hml, hown, hts⟩ (n_X6_kind l hlt N hN e7) (cwV 2 hts (gM_X6_kind wsM_up) rfl rfl rfl (by decide +kernel) ⟨Nat.le_of_ble_eq_true rfl, Nat.le_of_ble_eq_true rfl⟩) (y_preV hK hE hlo hW hS [.int w3, .int w4]) rfl rfl hl.1 rfl (lv_room (Nat.le_of_ble_eq_true rfl)) dL_all_136 ⟨by show c0 + 1 + 2 ≤ 1101; omega, by show 8 * (c0 + 1) + 12 ≤ 8808; omega⟩) (fun k hk H locs q9 ce hW hS hce hcv hcl => by subst hk; cases (show (none : Option (Int64 × yT)) = some (r, Tr) from zx_l h)) (fun r9 hk H locs hW hS => ?_)
      subst hk
      have h := zx_r h
      refine W.widen (k := c0 + 3) (n := 8 * (c0 + 3)) (by omega) (by omega) ?_
      refine lv_i2l hx hb dL_all_139 rfl ?_
      refine lv_ladd hx hb dL_all_140 ?_
      refine lv_ldc2 hx hb hown (hts (.constantLong RL 93 (7)) (by decide +kernel)) dL_all_141 ?_
      refine lv_lmul hx hb dL_all_144 ?_
      refine lv_aload_n hx hb dL_all_145 rfl (lv_at hl 0 rfl) ?_
      refine lv_bipush (v := 12) hx hb dL_all_146 (by decide) ?_
      refine lv_iload_n hx hb dL_all_148 rfl (lv_at hl 2 rfl) ?_
      refine lv_iconst (v := 1) hx hb dL_all_149 (by decide) ?_
      refine lv_iload hx hb dL_all_150 (lv_at hl 3 rfl) ?_
      refine lv_iconst (v := 0) hx hb dL_all_152 (by decide) ?_
      obtain ⟨q10, T12, e11, h⟩ := zbp_some h
      refine y_calli hS (vx_runSW (As := [.ref x0, .int (12 : Int32), .int w3, .int (1 : Int32), .int w4, .int (0 : Int32)]) (rest := [.long (((w1 * (5 : Int64)) + r9.toInt64) * (7 : Int64))]) ⟨hx, hb, hml, hown, hts⟩ (m_L_call l hlt N hN e11) (vx_cwSW (hh := [(0, 11, 12, 14), (0, 11, 18, 16), (0, 11, 24, 18)]) 6 hts (gM_L_call wsM_up) rfl rfl rfl (by decide +kernel) ⟨Nat.le_of_ble_eq_true rfl, Nat.le_of_ble_eq_true rfl⟩) (y_preS hK hE hlo hW hS [.ref x0, .int (12 : Int32), .int w3, .int (1 : Int32), .int w4, .int (0 : Int32)]) rfl rfl hl.1 rfl (lv_room (Nat.le_of_ble_eq_true rfl)) dL_all_153 ⟨by show c0 + 3 + 11 ≤ 1101; omega, by show 8 * (c0 + 3) + 88 ≤ 8808; omega⟩) (fun H locs hW hS => ?_)
      refine W.widen (k := c0 + 14) (n := 8 * (c0 + 14)) (by omega) (by omega) ?_
      refine lv_i2l hx hb dL_all_156 rfl ?_
      refine lv_ladd hx hb dL_all_157 ?_
      refine lv_lstore_n (lv' := [(1, .long ((((w1 * (5 : Int64)) + r9.toInt64) * (7 : Int64)) + q10.toInt64)), (0, .ref x0), (3, .int w3), (4, .int w4)]) hx hb dL_all_158 rfl hl (by decide) rfl (fun ls hl => ?_)
      refine lv_iinc (k := 3) (v := (w4 + 1)) (lv' := [(4, .int (w4 + 1)), (1, .long ((((w1 * (5 : Int64)) + r9.toInt64) * (7 : Int64)) + q10.toInt64)), (0, .ref x0), (3, .int w3)]) hx hb dL_all_159 hl rfl (by rw [show Int32.ofInt 1 = (1 : Int32) from by decide]) (by decide) rfl (fun ls hl => ?_)
      refine lv_goto (tgt := 117) hx hb dL_all_162 (by decide) ?_
      exact ih (c0 + 14) (by omega) (by omega) h hW hS (lv_sub hl [2, 1, 3, 0] rfl)
noncomputable def f_L_all_17 (N : Nat) : Nat → Int64 → Int32 → yT → Option (Int64 × yT)
  | 0, _, _, _ => none
  | n + 1, w1, w3, T =>
    zbp (y_X6_sentences T) fun q1 T3 => (
    zx q1 (fun _ => none) fun r4 => (
    (if r4 ≤ w3 then
    some (w1, T3)
    else
    zbp (y_X6_words T3 w3) fun q6 T8 => (
    zx q6 (fun _ => none) fun r9 => (
    zbp (y_X6_trees T8 w3 (1 : Int32)) fun q10 T12 => (
    zx q10 (fun _ => none) fun r13 => (
    zbp (y_X6_trees T12 w3 (0 : Int32)) fun q14 T16 => (
    zx q14 (fun _ => none) fun r17 => (
    zbp (f_L_call N T16 (10 : Int32) w3 (1 : Int32) (0 : Int32) (0 : Int32)) fun q18 T20 => (
    zbp (f_L_call N T20 (10 : Int32) w3 (0 : Int32) (0 : Int32) (0 : Int32)) fun q21 T23 => (
    zbp (f_L_call N T23 (16 : Int32) w3 (0 : Int32) (0 : Int32) (0 : Int32)) fun q24 T26 => (
    f_L_all_117 N (fun y1 y3 T => f_L_all_17 N n y1 y3 T) 8 ((((((((((((w1 * (7 : Int64)) + r9.toInt64) * (17011 : Int64)) + r13.toInt64) * (1433 : Int64)) + r17.toInt64) * (20011 : Int64)) + q18.toInt64) * (20011 : Int64)) + q21.toInt64) * (13 : Int64)) + q24.toInt64) w3 (1 : Int32) T26))))))))))))
set_option maxRecDepth 100000 in
set_option maxHeartbeats 8000000 in
theorem t_L_all_17 {p : Program} {l : Launch} {e : Env} {s : State} {m : MethodId} {args : Array Value} {below : List Frame} {meth : Method} {c : Code} {D : va_G} {cy : Nat → ClassId} {x0 lo : Nat} (C0 : yCx p l s m c meth args cL_all 5 wsM_all RL (some .long) D cy lo) (N : Nat) (hN : 10000000 ≤ N) {r : Int64} {Tr : yT} : ∀ (n c0 : Nat) {w1 : Int64} {w3 : Int32} {T : yT}, c0 + n * 149 + 0 ≤ 1101 → f_L_all_17 N n w1 w3 T = some (r, Tr) → ∀ {H : Heap} {locs : List Loc} {ls : Array Slot}, yWd D cy x0 lo T H → va_S (yA lo) s.heap H locs → lv_has ls 5 [(0, .ref x0), (1, .long w1), (3, .int w3)] → W p l e (headSpec wsM_all ({ frames := 18, cells := 1101, slots := 8808, locals := 470 } : Room)).room s m args below meth c H locs (c0) (8 * (c0)) (MQ below (yQl D cy x0 lo r Tr) args s 1101 8808 (yA lo)) (F0 m 17 ls []) := by
  obtain ⟨hx, hb, hr, hml, hown, hts, hlocks, hK, hE, hlo, hlt⟩ := id C0
  intro n
  induction n with
  | zero =>
    intro c0 w1 w3 T hc h
    cases (show (none : Option (Int64 × yT)) = some (r, Tr) from h)
  | succ n ih =>
    intro c0 w1 w3 T hc h H locs ls hW hS hl
    rw [f_L_all_17] at h
    refine lv_iload_n hx hb dL_all_17 rfl (lv_at hl 2 rfl) ?_
    refine lv_aload_n hx hb dL_all_18 rfl (lv_at hl 0 rfl) ?_
    obtain ⟨q1, T3, e2, h⟩ := zbp_some h
    refine y_xcalli hS (vx_runV (As := []) (rest := [.int w3]) ⟨hx, hb, hml, hown, hts⟩ (n_X6_sentences l hlt N hN e2) (cwV 0 hts (gM_X6_sentences wsM_up) rfl rfl rfl (by decide +kernel) ⟨Nat.le_of_ble_eq_true rfl, Nat.le_of_ble_eq_true rfl⟩) (y_preV hK hE hlo hW hS []) rfl rfl hl.1 rfl (lv_room (Nat.le_of_ble_eq_true rfl)) dL_all_19 ⟨by show c0 + 0 ≤ 1101; omega, by show 8 * (c0) + 0 ≤ 8808; omega⟩) (fun k hk H locs q9 ce hW hS hce hcv hcl => by subst hk; cases (show (none : Option (Int64 × yT)) = some (r, Tr) from zx_l h)) (fun r4 hk H locs hW hS => ?_)
    subst hk
    have h := zx_r h
    refine lv_icmp_ge (tgt := 171) hx hb dL_all_22 (by decide) (fun c5 => ?_) (fun c5 => ?_)
    · have h := zip c5 h
      refine lv_lload_n hx hb dL_all_171 rfl (lv_at hl 1 rfl) ?_
      exact y_lret hx hb hr hlocks hW hS (congrArg Prod.fst (Option.some.inj h)) (congrArg Prod.snd (Option.some.inj h)) dL_all_172 (by omega) (by omega)
    · have h := zin c5 h
      refine lv_lload_n hx hb dL_all_25 rfl (lv_at hl 1 rfl) ?_
      refine lv_ldc2 hx hb hown (hts (.constantLong RL 93 (7)) (by decide +kernel)) dL_all_26 ?_
      refine lv_lmul hx hb dL_all_29 ?_
      refine lv_aload_n hx hb dL_all_30 rfl (lv_at hl 0 rfl) ?_
      refine lv_iload_n hx hb dL_all_31 rfl (lv_at hl 2 rfl) ?_
      obtain ⟨q6, T8, e7, h⟩ := zbp_some h
      refine y_xcalli hS (vx_runV (As := [.int w3]) (rest := [.long (w1 * (7 : Int64))]) ⟨hx, hb, hml, hown, hts⟩ (n_X6_words l hlt N hN e7) (cwV 1 hts (gM_X6_words wsM_up) rfl rfl rfl (by decide +kernel) ⟨Nat.le_of_ble_eq_true rfl, Nat.le_of_ble_eq_true rfl⟩) (y_preV hK hE hlo hW hS [.int w3]) rfl rfl hl.1 rfl (lv_room (Nat.le_of_ble_eq_true rfl)) dL_all_32 ⟨by show c0 + 1 ≤ 1101; omega, by show 8 * (c0) + 6 ≤ 8808; omega⟩) (fun k hk H locs q9 ce hW hS hce hcv hcl => by subst hk; cases (show (none : Option (Int64 × yT)) = some (r, Tr) from zx_l h)) (fun r9 hk H locs hW hS => ?_)
      subst hk
      have h := zx_r h
      refine W.widen (k := c0 + 1) (n := 8 * (c0 + 1)) (by omega) (by omega) ?_
      refine lv_i2l hx hb dL_all_35 rfl ?_
      refine lv_ladd hx hb dL_all_36 ?_
      refine lv_lstore_n (lv' := [(1, .long ((w1 * (7 : Int64)) + r9.toInt64)), (0, .ref x0), (3, .int w3)]) hx hb dL_all_37 rfl hl (by decide) rfl (fun ls hl => ?_)
      refine lv_lload_n hx hb dL_all_38 rfl (lv_at hl 0 rfl) ?_
      refine lv_ldc2 hx hb hown (hts (.constantLong RL 108 (17011)) (by decide +kernel)) dL_all_39 ?_
      refine lv_lmul hx hb dL_all_42 ?_
      refine lv_aload_n hx hb dL_all_43 rfl (lv_at hl 1 rfl) ?_
      refine lv_iload_n hx hb dL_all_44 rfl (lv_at hl 2 rfl) ?_
      refine lv_iconst (v := 1) hx hb dL_all_45 (by decide) ?_
      obtain ⟨q10, T12, e11, h⟩ := zbp_some h
      refine y_xcalli hS (vx_runV (As := [.int w3, .int (1 : Int32)]) (rest := [.long (((w1 * (7 : Int64)) + r9.toInt64) * (17011 : Int64))]) ⟨hx, hb, hml, hown, hts⟩ (n_X6_trees l hlt N hN e11) (cwV 2 hts (gM_X6_trees wsM_up) rfl rfl rfl (by decide +kernel) ⟨Nat.le_of_ble_eq_true rfl, Nat.le_of_ble_eq_true rfl⟩) (y_preV hK hE hlo hW hS [.int w3, .int (1 : Int32)]) rfl rfl hl.1 rfl (lv_room (Nat.le_of_ble_eq_true rfl)) dL_all_46 ⟨by show c0 + 1 + 1 ≤ 1101; omega, by show 8 * (c0 + 1) + 6 ≤ 8808; omega⟩) (fun k hk H locs q9 ce hW hS hce hcv hcl => by subst hk; cases (show (none : Option (Int64 × yT)) = some (r, Tr) from zx_l h)) (fun r13 hk H locs hW hS => ?_)
      subst hk
      have h := zx_r h
      refine W.widen (k := c0 + 2) (n := 8 * (c0 + 2)) (by omega) (by omega) ?_
      refine lv_i2l hx hb dL_all_49 rfl ?_
      refine lv_ladd hx hb dL_all_50 ?_
      refine lv_ldc2 hx hb hown (hts (.constantLong RL 110 (1433)) (by decide +kernel)) dL_all_51 ?_
      refine lv_lmul hx hb dL_all_54 ?_
      refine lv_aload_n hx hb dL_all_55 rfl (lv_at hl 1 rfl) ?_
      refine lv_iload_n hx hb dL_all_56 rfl (lv_at hl 2 rfl) ?_
      refine lv_iconst (v := 0) hx hb dL_all_57 (by decide) ?_
      obtain ⟨q14, T16, e15, h⟩ := zbp_some h
      refine y_xcalli hS (vx_runV (As := [.int w3, .int (0 : Int32)]) (rest := [.long (((((w1 * (7 : Int64)) + r9.toInt64) * (17011 : Int64)) + r13.toInt64) * (1433 : Int64))]) ⟨hx, hb, hml, hown, hts⟩ (n_X6_trees l hlt N hN e15) (cwV 2 hts (gM_X6_trees wsM_up) rfl rfl rfl (by decide +kernel) ⟨Nat.le_of_ble_eq_true rfl, Nat.le_of_ble_eq_true rfl⟩) (y_preV hK hE hlo hW hS [.int w3, .int (0 : Int32)]) rfl rfl hl.1 rfl (lv_room (Nat.le_of_ble_eq_true rfl)) dL_all_58 ⟨by show c0 + 2 + 1 ≤ 1101; omega, by show 8 * (c0 + 2) + 6 ≤ 8808; omega⟩) (fun k hk H locs q9 ce hW hS hce hcv hcl => by subst hk; cases (show (none : Option (Int64 × yT)) = some (r, Tr) from zx_l h)) (fun r17 hk H locs hW hS => ?_)
      subst hk
      have h := zx_r h
      refine W.widen (k := c0 + 3) (n := 8 * (c0 + 3)) (by omega) (by omega) ?_
      refine lv_i2l hx hb dL_all_61 rfl ?_
      refine lv_ladd hx hb dL_all_62 ?_
      refine lv_lstore_n (lv' := [(1, .long ((((((w1 * (7 : Int64)) + r9.toInt64) * (17011 : Int64)) + r13.toInt64) * (1433 : Int64)) + r17.toInt64)), (0, .ref x0), (3, .int w3)]) hx hb dL_all_63 rfl hl (by decide) rfl (fun ls hl => ?_)
      refine lv_lload_n hx hb dL_all_64 rfl (lv_at hl 0 rfl) ?_
      refine lv_ldc2 hx hb hown (hts (.constantLong RL 112 (20011)) (by decide +kernel)) dL_all_65 ?_
      refine lv_lmul hx hb dL_all_68 ?_
      refine lv_aload_n hx hb dL_all_69 rfl (lv_at hl 1 rfl) ?_
      refine lv_bipush (v := 10) hx hb dL_all_70 (by decide) ?_
      refine lv_iload_n hx hb dL_all_72 rfl (lv_at hl 2 rfl) ?_
      refine lv_iconst (v := 1) hx hb dL_all_73 (by decide) ?_
      refine lv_iconst (v := 0) hx hb dL_all_74 (by decide) ?_
      refine lv_iconst (v := 0) hx hb dL_all_75 (by decide) ?_
      obtain ⟨q18, T20, e19, h⟩ := zbp_some h
      refine y_calli hS (vx_runSW (As := [.ref x0, .int (10 : Int32), .int w3, .int (1 : Int32), .int (0 : Int32), .int (0 : Int32)]) (rest := [.long (((((((w1 * (7 : Int64)) + r9.toInt64) * (17011 : Int64)) + r13.toInt64) * (1433 : Int64)) + r17.toInt64) * (20011 : Int64))]) ⟨hx, hb, hml, hown, hts⟩ (m_L_call l hlt N hN e19) (vx_cwSW (hh := [(0, 11, 12, 14), (0, 11, 18, 16), (0, 11, 24, 18)]) 6 hts (gM_L_call wsM_up) rfl rfl rfl (by decide +kernel) ⟨Nat.le_of_ble_eq_true rfl, Nat.le_of_ble_eq_true rfl⟩) (y_preS hK hE hlo hW hS [.ref x0, .int (10 : Int32), .int w3, .int (1 : Int32), .int (0 : Int32), .int (0 : Int32)]) rfl rfl hl.1 rfl (lv_room (Nat.le_of_ble_eq_true rfl)) dL_all_76 ⟨by show c0 + 3 + 11 ≤ 1101; omega, by show 8 * (c0 + 3) + 88 ≤ 8808; omega⟩) (fun H locs hW hS => ?_)
      refine W.widen (k := c0 + 14) (n := 8 * (c0 + 14)) (by omega) (by omega) ?_
      refine lv_i2l hx hb dL_all_79 rfl ?_
      refine lv_ladd hx hb dL_all_80 ?_
      refine lv_ldc2 hx hb hown (hts (.constantLong RL 112 (20011)) (by decide +kernel)) dL_all_81 ?_
      refine lv_lmul hx hb dL_all_84 ?_
      refine lv_aload_n hx hb dL_all_85 rfl (lv_at hl 1 rfl) ?_
      refine lv_bipush (v := 10) hx hb dL_all_86 (by decide) ?_
      refine lv_iload_n hx hb dL_all_88 rfl (lv_at hl 2 rfl) ?_
      refine lv_iconst (v := 0) hx hb dL_all_89 (by decide) ?_
      refine lv_iconst (v := 0) hx hb dL_all_90 (by decide) ?_
      refine lv_iconst (v := 0) hx hb dL_all_91 (by decide) ?_
      obtain ⟨q21, T23, e22, h⟩ := zbp_some h
      refine y_calli hS (vx_runSW (As := [.ref x0, .int (10 : Int32), .int w3, .int (0 : Int32), .int (0 : Int32), .int (0 : Int32)]) (rest := [.long (((((((((w1 * (7 : Int64)) + r9.toInt64) * (17011 : Int64)) + r13.toInt64) * (1433 : Int64)) + r17.toInt64) * (20011 : Int64)) + q18.toInt64) * (20011 : Int64))]) ⟨hx, hb, hml, hown, hts⟩ (m_L_call l hlt N hN e22) (vx_cwSW (hh := [(0, 11, 12, 14), (0, 11, 18, 16), (0, 11, 24, 18)]) 6 hts (gM_L_call wsM_up) rfl rfl rfl (by decide +kernel) ⟨Nat.le_of_ble_eq_true rfl, Nat.le_of_ble_eq_true rfl⟩) (y_preS hK hE hlo hW hS [.ref x0, .int (10 : Int32), .int w3, .int (0 : Int32), .int (0 : Int32), .int (0 : Int32)]) rfl rfl hl.1 rfl (lv_room (Nat.le_of_ble_eq_true rfl)) dL_all_92 ⟨by show c0 + 14 + 11 ≤ 1101; omega, by show 8 * (c0 + 14) + 88 ≤ 8808; omega⟩) (fun H locs hW hS => ?_)
      refine W.widen (k := c0 + 25) (n := 8 * (c0 + 25)) (by omega) (by omega) ?_
      refine lv_i2l hx hb dL_all_95 rfl ?_
      refine lv_ladd hx hb dL_all_96 ?_
      refine lv_ldc2 hx hb hown (hts (.constantLong RL 117 (13)) (by decide +kernel)) dL_all_97 ?_
      refine lv_lmul hx hb dL_all_100 ?_
      refine lv_aload_n hx hb dL_all_101 rfl (lv_at hl 1 rfl) ?_
      refine lv_bipush (v := 16) hx hb dL_all_102 (by decide) ?_
      refine lv_iload_n hx hb dL_all_104 rfl (lv_at hl 2 rfl) ?_
      refine lv_iconst (v := 0) hx hb dL_all_105 (by decide) ?_
      refine lv_iconst (v := 0) hx hb dL_all_106 (by decide) ?_
      refine lv_iconst (v := 0) hx hb dL_all_107 (by decide) ?_
      obtain ⟨q24, T26, e25, h⟩ := zbp_some h
      refine y_calli hS (vx_runSW (As := [.ref x0, .int (16 : Int32), .int w3, .int (0 : Int32), .int (0 : Int32), .int (0 : Int32)]) (rest := [.long (((((((((((w1 * (7 : Int64)) + r9.toInt64) * (17011 : Int64)) + r13.toInt64) * (1433 : Int64)) + r17.toInt64) * (20011 : Int64)) + q18.toInt64) * (20011 : Int64)) + q21.toInt64) * (13 : Int64))]) ⟨hx, hb, hml, hown, hts⟩ (m_L_call l hlt N hN e25) (vx_cwSW (hh := [(0, 11, 12, 14), (0, 11, 18, 16), (0, 11, 24, 18)]) 6 hts (gM_L_call wsM_up) rfl rfl rfl (by decide +kernel) ⟨Nat.le_of_ble_eq_true rfl, Nat.le_of_ble_eq_true rfl⟩) (y_preS hK hE hlo hW hS [.ref x0, .int (16 : Int32), .int w3, .int (0 : Int32), .int (0 : Int32), .int (0 : Int32)]) rfl rfl hl.1 rfl (lv_room (Nat.le_of_ble_eq_true rfl)) dL_all_108 ⟨by show c0 + 25 + 11 ≤ 1101; omega, by show 8 * (c0 + 25) + 88 ≤ 8808; omega⟩) (fun H locs hW hS => ?_)
      refine W.widen (k := c0 + 36) (n := 8 * (c0 + 36)) (by omega) (by omega) ?_
      refine lv_i2l hx hb dL_all_111 rfl ?_
      refine lv_ladd hx hb dL_all_112 ?_
      refine lv_lstore_n (lv' := [(1, .long ((((((((((((w1 * (7 : Int64)) + r9.toInt64) * (17011 : Int64)) + r13.toInt64) * (1433 : Int64)) + r17.toInt64) * (20011 : Int64)) + q18.toInt64) * (20011 : Int64)) + q21.toInt64) * (13 : Int64)) + q24.toInt64)), (0, .ref x0), (3, .int w3)]) hx hb dL_all_113 rfl hl (by decide) rfl (fun ls hl => ?_)
      refine lv_iconst (v := 1) hx hb dL_all_114 (by decide) ?_
      refine lv_istore (lv' := [(4, .int (1 : Int32)), (1, .long ((((((((((((w1 * (7 : Int64)) + r9.toInt64) * (17011 : Int64)) + r13.toInt64) * (1433 : Int64)) + r17.toInt64) * (20011 : Int64)) + q18.toInt64) * (20011 : Int64)) + q21.toInt64) * (13 : Int64)) + q24.toInt64)), (0, .ref x0), (3, .int w3)]) hx hb dL_all_115 hl (by decide) rfl (fun ls hl => ?_)
      exact t_L_all_117 C0 N hN (ch17 := c0 + 149) (by omega) (fun h _ _ _ hW hS hl => ih (c0 + 149) (by omega) h hW hS hl) 8 (c0 + 36) (by omega) (by omega) h hW hS (lv_sub hl [2, 1, 3, 0] rfl)
noncomputable def f_L_all_0 (N : Nat) (T : yT) : Option (Int64 × yT) :=
zbp (f_L_weights N T) fun q1 T3 => (
zbp (y_X6_sentences T3) fun q4 T6 => (
zx q4 (fun _ => none) fun r7 => (
f_L_all_17 N 7 ((q1 * (7 : Int64)) + r7.toInt64) (0 : Int32) T6)))
set_option maxRecDepth 100000 in
set_option maxHeartbeats 8000000 in
theorem t_L_all_0 {p : Program} {l : Launch} {e : Env} {s : State} {m : MethodId} {args : Array Value} {below : List Frame} {meth : Method} {c : Code} {D : va_G} {cy : Nat → ClassId} {x0 lo : Nat} (C0 : yCx p l s m c meth args cL_all 5 wsM_all RL (some .long) D cy lo) (N : Nat) (hN : 10000000 ≤ N) {c0 : Nat} {T : yT} {r : Int64} {Tr : yT} (hc : c0 + 1101 ≤ 1101) (h : f_L_all_0 N T = some (r, Tr)) {H : Heap} {locs : List Loc} {ls : Array Slot} (hW : yWd D cy x0 lo T H) (hS : va_S (yA lo) s.heap H locs) (hl : lv_has ls 5 [(0, .ref x0)]) : W p l e (headSpec wsM_all ({ frames := 18, cells := 1101, slots := 8808, locals := 470 } : Room)).room s m args below meth c H locs (c0) (8 * (c0)) (MQ below (yQl D cy x0 lo r Tr) args s 1101 8808 (yA lo)) (F0 m 0 ls []) := by
  obtain ⟨hx, hb, hr, hml, hown, hts, hlocks, hK, hE, hlo, hlt⟩ := id C0
  unfold f_L_all_0 at h
  refine lv_aload_n hx hb dL_all_0 rfl (lv_at hl 0 rfl) ?_
  obtain ⟨q1, T3, e2, h⟩ := zbp_some h
  refine y_calll hS (va_runS (As := [.ref x0]) (rest := []) ⟨hx, hb, hml, hown, hts⟩ (m_L_weights l hlt N hN e2) (va_cwS 1 hts (gM_L_weights wsM_up) rfl rfl rfl (by decide +kernel) ⟨Nat.le_of_ble_eq_true rfl, Nat.le_of_ble_eq_true rfl⟩) (y_preS hK hE hlo hW hS [.ref x0]) rfl rfl hl.1 rfl (lv_room (Nat.le_of_ble_eq_true rfl)) dL_all_1 ⟨by show c0 + 58 ≤ 1101; omega, by show 8 * (c0) + 464 ≤ 8808; omega⟩) (fun H locs hW hS => ?_)
  refine W.widen (k := c0 + 58) (n := 8 * (c0 + 58)) (by omega) (by omega) ?_
  refine lv_ldc2 hx hb hown (hts (.constantLong RL 93 (7)) (by decide +kernel)) dL_all_4 ?_
  refine lv_lmul hx hb dL_all_7 ?_
  refine lv_aload_n hx hb dL_all_8 rfl (lv_at hl 0 rfl) ?_
  obtain ⟨q4, T6, e5, h⟩ := zbp_some h
  refine y_xcalli hS (vx_runV (As := []) (rest := [.long (q1 * (7 : Int64))]) ⟨hx, hb, hml, hown, hts⟩ (n_X6_sentences l hlt N hN e5) (cwV 0 hts (gM_X6_sentences wsM_up) rfl rfl rfl (by decide +kernel) ⟨Nat.le_of_ble_eq_true rfl, Nat.le_of_ble_eq_true rfl⟩) (y_preV hK hE hlo hW hS []) rfl rfl hl.1 rfl (lv_room (Nat.le_of_ble_eq_true rfl)) dL_all_9 ⟨by show c0 + 58 + 0 ≤ 1101; omega, by show 8 * (c0 + 58) + 0 ≤ 8808; omega⟩) (fun k hk H locs q9 ce hW hS hce hcv hcl => by subst hk; cases (show (none : Option (Int64 × yT)) = some (r, Tr) from zx_l h)) (fun r7 hk H locs hW hS => ?_)
  subst hk
  have h := zx_r h
  refine lv_i2l hx hb dL_all_12 rfl ?_
  refine lv_ladd hx hb dL_all_13 ?_
  refine lv_lstore_n (lv' := [(1, .long ((q1 * (7 : Int64)) + r7.toInt64)), (0, .ref x0)]) hx hb dL_all_14 rfl hl (by decide) rfl (fun ls hl => ?_)
  refine lv_iconst (v := 0) hx hb dL_all_15 (by decide) ?_
  refine lv_istore_n (lv' := [(3, .int (0 : Int32)), (1, .long ((q1 * (7 : Int64)) + r7.toInt64)), (0, .ref x0)]) hx hb dL_all_16 rfl hl (by decide) rfl (fun ls hl => ?_)
  exact t_L_all_17 C0 N hN  7 (c0 + 58) (by omega) h hW hS (lv_sub hl [2, 1, 0] rfl)
noncomputable def f_L_all (N : Nat) (T : yT) : Option (Int64 × yT) := f_L_all_0 N  T
set_option maxRecDepth 100000 in
set_option maxHeartbeats 8000000 in
theorem m_L_all (l : Launch) (hlt : l.stackTraces = false) (N : Nat) (hN : 10000000 ≤ N) {D : va_G} {cy : Nat → ClassId} {x0 lo : Nat} {T : yT} {r : Int64} {Tr : yT} (h : f_L_all N T  = some (r, Tr)) : Met l yL_all wsM_all ({ frames := 18, cells := 1101, slots := 8808, locals := 470 } : Room) (yPre D cy x0 lo [.ref x0] T) (yQl D cy x0 lo r Tr) 1101 8808 (yA lo) :=
  y_entry hlt (av := [.ref x0]) (by decide) rfl rfl (Nat.le_of_ble_eq_true rfl) (fun p e s m args below meth c C0 H locs ls hW hS hl => t_L_all_0 C0 N hN (c0 := 0) (by decide) h hW hS (lv_sub hl [0] rfl))

/-! Walks laid by program (wip/whole/gen): J9_floorMod_f86c9, J7_fill_d0a16, J7_fill_53178, X6_isPlace, X6_doCross, X6_byDistance, X6_rowOfHeads, X6_scoreIn, X6_headIn, X3_join, X5_isFeature, X5_isRow, X2_size, X2_append, X2_kindAt, X2_byKinds, X2_markOf, X2_changeMark, X2_forcedHead, X2_allows, X2_rightHead, X2_changeRightHead, X2_hasRightTree, X0_size, X0_get -/
def f_J9_floorMod_f86c9_0 (N : Nat) (x0 : Int64) (x2 : Int64) : Option (Int64) :=
zg (!(x2 == 0)) (
(if (0 : Int64) ≤ (x0 ^^^ x2) then
some (x0 - x0 / x2 * x2)
else
(if (x0 - x0 / x2 * x2) = (0 : Int64) then
some (x0 - x0 / x2 * x2)
else
some ((x0 - x0 / x2 * x2) + x2))))
set_option maxRecDepth 100000 in
set_option maxHeartbeats 4000000 in
theorem t_J9_floorMod_f86c9_0 {p : Program} {l : Launch} {e : Env} {s : State} {m : MethodId} {args : Array Value} {below : List Frame} {meth : Method} {c : Code} {D : va_G} {cy : Nat → ClassId} {ad : Nat → Nat} {L : List Nat} {K len : Nat → Nat} (C0 : zCx p s m c meth args cJ9_floorMod_f86c9 6 wsJ9_floorMod_f86c9 RJ9 (some .long) D cy ad L K) (N : Nat) {x0 : Int64} {x2 : Int64} {M : ZM} {r : Int64} (h : f_J9_floorMod_f86c9_0 N x0 x2 = some r) {H : Heap} {locs : List Loc} {ls : Array Slot} (hW : zWd D cy ad L K len M H) (hS : va_S (zA ad L s.heap.size) s.heap H locs) (hl : lv_has ls 6 [(0, .long x0), (2, .long x2)]) : W p l e (headSpec wsJ9_floorMod_f86c9 ({ frames := 0, cells := 0, slots := 0, locals := 0 } : Room)).room s m args below meth c H locs 0 0 (MQ below (zQl D cy ad L K len r M s.heap.size) args s 0 0 (zA ad L s.heap.size)) (F0 m 0 ls []) := by
  obtain ⟨hx, hb, hr, hml, hown, hts, hlocks, hK, hL, hE⟩ := id C0
  unfold f_J9_floorMod_f86c9_0 at h
  refine lv_lload_n hx hb dJ9_floorMod_f86c9_0 rfl (lv_at hl 0 rfl) ?_
  refine lv_lload_n hx hb dJ9_floorMod_f86c9_1 rfl (lv_at hl 1 rfl) ?_
  obtain ⟨g1, h⟩ := zg_some h
  refine lv_lrem hx hb dJ9_floorMod_f86c9_2 (zne_of g1) ?_
  refine lv_lstore (lv' := [(4, .long (x0 - x0 / x2 * x2)), (0, .long x0), (2, .long x2)]) hx hb dJ9_floorMod_f86c9_3 hl (by decide) rfl (fun ls hl => ?_)
  refine lv_lload_n hx hb dJ9_floorMod_f86c9_5 rfl (lv_at hl 1 rfl) ?_
  refine lv_lload_n hx hb dJ9_floorMod_f86c9_6 rfl (lv_at hl 2 rfl) ?_
  refine lv_lxor hx hb dJ9_floorMod_f86c9_7 ?_
  refine lv_lconst (v := 0) hx hb dJ9_floorMod_f86c9_8 (by decide) ?_
  refine z_lc_ge (tgt := 25) hx hb dJ9_floorMod_f86c9_9 dJ9_floorMod_f86c9_10 (by decide) (fun c2 => ?_) (fun c2 => ?_)
  · have h := zip c2 h
    refine lv_lload hx hb dJ9_floorMod_f86c9_25 (lv_at hl 0 rfl) ?_
    exact z_lret hx hb hr hlocks hW hS (Option.some.inj h) rfl dJ9_floorMod_f86c9_27
  · have h := zin c2 h
    refine lv_lload hx hb dJ9_floorMod_f86c9_13 (lv_at hl 0 rfl) ?_
    refine lv_lconst (v := 0) hx hb dJ9_floorMod_f86c9_15 (by decide) ?_
    refine z_lc_eq (tgt := 25) hx hb dJ9_floorMod_f86c9_16 dJ9_floorMod_f86c9_17 (by decide) (fun c3 => ?_) (fun c3 => ?_)
    · have h := zip c3 h
      refine lv_lload hx hb dJ9_floorMod_f86c9_25 (lv_at hl 0 rfl) ?_
      exact z_lret hx hb hr hlocks hW hS (Option.some.inj h) rfl dJ9_floorMod_f86c9_27
    · have h := zin c3 h
      refine lv_lload hx hb dJ9_floorMod_f86c9_20 (lv_at hl 0 rfl) ?_
      refine lv_lload_n hx hb dJ9_floorMod_f86c9_22 rfl (lv_at hl 2 rfl) ?_
      refine lv_ladd hx hb dJ9_floorMod_f86c9_23 ?_
      exact z_lret hx hb hr hlocks hW hS (Option.some.inj h) rfl dJ9_floorMod_f86c9_24
def f_J9_floorMod_f86c9 (N : Nat) (a0 : Int64) (a2 : Int64) : Option (Int64) := f_J9_floorMod_f86c9_0 N a0 a2
set_option maxRecDepth 100000 in
set_option maxHeartbeats 4000000 in
theorem m_J9_floorMod_f86c9 (l : Launch) {D : va_G} {cy : Nat → ClassId} {ad : Nat → Nat} {L : List Nat} {K len : Nat → Nat} (hL : zSh ad L K) (N : Nat) {a0 : Int64} {a2 : Int64} {M : ZM} {r : Int64} (h : f_J9_floorMod_f86c9 N a0 a2 = some r) (sz : Nat) : Met l yJ9_floorMod_f86c9 wsJ9_floorMod_f86c9 ({ frames := 0, cells := 0, slots := 0, locals := 0 } : Room) (zPre D cy ad L K len sz [.long a0, .long a2] M) (zQl D cy ad L K len r M sz) 0 0 (zA ad L sz) :=
  z_entryF (Qf := fun sz => zQl D cy ad L K len r M sz) (av := [.long a0, .long a2]) (by decide +kernel) rfl rfl hL (Nat.le_of_ble_eq_true rfl) (fun p e s m args below meth c C0 H locs ls hW hS hl => t_J9_floorMod_f86c9_0 C0 N h hW hS (lv_sub hl [0, 1] rfl))
def f_J7_fill_d0a16_6 (N : Nat) (K len : Nat → Nat) : Nat → Nat → Int64 → Int32 → Int32 → ZM → Option (ZM)
  | 0, _, _, _, _, _ => none
  | n + 1, x0, x1, x3, x4, M =>
    (if x4 ≤ x3 then
    some M
    else
    zg (zok K len x0 12 x3) (
    zl (zsJ M x0 x3.toNatClampNeg x1) fun M3 => (
    f_J7_fill_d0a16_6 N K len  n x0 x1 (x3 + 1) x4 M3)))
set_option maxRecDepth 100000 in
set_option maxHeartbeats 4000000 in
theorem t_J7_fill_d0a16_6 {p : Program} {l : Launch} {e : Env} {s : State} {m : MethodId} {args : Array Value} {below : List Frame} {meth : Method} {c : Code} {D : va_G} {cy : Nat → ClassId} {ad : Nat → Nat} {L : List Nat} {K len : Nat → Nat} (C0 : zCx p s m c meth args cJ7_fill_d0a16 5 wsJ7_fill_d0a16 RJ7 none D cy ad L K) (N : Nat) {Mr : ZM} : ∀ (n : Nat) {x0 : Nat} {x1 : Int64} {x3 : Int32} {x4 : Int32} {M : ZM}, f_J7_fill_d0a16_6 N K len n x0 x1 x3 x4 M = some Mr → ∀ {H : Heap} {locs : List Loc} {ls : Array Slot}, zWd D cy ad L K len M H → va_S (zA ad L s.heap.size) s.heap H locs → lv_has ls 5 [(0, .ref (ad x0)), (1, .long x1), (3, .int x3), (4, .int x4)] → W p l e (headSpec wsJ7_fill_d0a16 ({ frames := 0, cells := 0, slots := 0, locals := 0 } : Room)).room s m args below meth c H locs 0 0 (MQ below (zQv D cy ad L K len Mr s.heap.size) args s 0 0 (zA ad L s.heap.size)) (F0 m 6 ls []) := by
  obtain ⟨hx, hb, hr, hml, hown, hts, hlocks, hK, hL, hE⟩ := id C0
  intro n
  induction n with
  | zero =>
    intro x0 x1 x3 x4 M h
    cases (show (none : Option (ZM)) = some Mr from h)
  | succ n ih =>
    intro x0 x1 x3 x4 M h H locs ls hW hS hl
    rw [f_J7_fill_d0a16_6] at h
    refine lv_iload_n hx hb dJ7_fill_d0a16_6 rfl (lv_at hl 2 rfl) ?_
    refine lv_iload hx hb dJ7_fill_d0a16_7 (lv_at hl 3 rfl) ?_
    refine lv_icmp_ge (tgt := 22) hx hb dJ7_fill_d0a16_9 (by decide) (fun c1 => ?_) (fun c1 => ?_)
    · have h := zip c1 h
      exact z_vret hx hb hr hlocks hW hS (Option.some.inj h) dJ7_fill_d0a16_22
    · have h := zin c1 h
      refine lv_aload_n hx hb dJ7_fill_d0a16_12 rfl (lv_at hl 0 rfl) ?_
      refine lv_iload_n hx hb dJ7_fill_d0a16_13 rfl (lv_at hl 2 rfl) ?_
      refine lv_lload_n hx hb dJ7_fill_d0a16_14 rfl (lv_at hl 1 rfl) ?_
      obtain ⟨g2, h⟩ := zg_some h
      refine z_last hx hb hK hL hW hS g2 dJ7_fill_d0a16_15 (fun H locs hW hS => ?_)
      obtain ⟨M3, eM4, h⟩ := zl_some h
      rw [← eM4] at hW
      refine lv_iinc (k := 2) (v := (x3 + 1)) (lv' := [(3, .int (x3 + 1)), (0, .ref (ad x0)), (1, .long x1), (4, .int x4)]) hx hb dJ7_fill_d0a16_16 hl rfl (by rw [show Int32.ofInt 1 = (1 : Int32) from by decide]) (by decide) rfl (fun ls hl => ?_)
      refine lv_goto (tgt := 6) hx hb dJ7_fill_d0a16_19 (by decide) ?_
      exact ih h hW hS (lv_sub hl [1, 2, 0, 3] rfl)
def f_J7_fill_d0a16_0 (N : Nat) (K len : Nat → Nat) (x0 : Nat) (x1 : Int64) (M : ZM) : Option (ZM) :=
zg (11 ≤ K x0 && K x0 ≤ 17) (
f_J7_fill_d0a16_6 N K len  N x0 x1 (0 : Int32) (Int32.ofNat (len x0)) M)
set_option maxRecDepth 100000 in
set_option maxHeartbeats 4000000 in
theorem t_J7_fill_d0a16_0 {p : Program} {l : Launch} {e : Env} {s : State} {m : MethodId} {args : Array Value} {below : List Frame} {meth : Method} {c : Code} {D : va_G} {cy : Nat → ClassId} {ad : Nat → Nat} {L : List Nat} {K len : Nat → Nat} (C0 : zCx p s m c meth args cJ7_fill_d0a16 5 wsJ7_fill_d0a16 RJ7 none D cy ad L K) (N : Nat) {x0 : Nat} {x1 : Int64} {M : ZM} {Mr : ZM} (h : f_J7_fill_d0a16_0 N K len x0 x1 M = some Mr) {H : Heap} {locs : List Loc} {ls : Array Slot} (hW : zWd D cy ad L K len M H) (hS : va_S (zA ad L s.heap.size) s.heap H locs) (hl : lv_has ls 5 [(0, .ref (ad x0)), (1, .long x1)]) : W p l e (headSpec wsJ7_fill_d0a16 ({ frames := 0, cells := 0, slots := 0, locals := 0 } : Room)).room s m args below meth c H locs 0 0 (MQ below (zQv D cy ad L K len Mr s.heap.size) args s 0 0 (zA ad L s.heap.size)) (F0 m 0 ls []) := by
  obtain ⟨hx, hb, hr, hml, hown, hts, hlocks, hK, hL, hE⟩ := id C0
  unfold f_J7_fill_d0a16_0 at h
  refine lv_iconst (v := 0) hx hb dJ7_fill_d0a16_0 (by decide) ?_
  refine lv_istore_n (lv' := [(3, .int (0 : Int32)), (0, .ref (ad x0)), (1, .long x1)]) hx hb dJ7_fill_d0a16_1 rfl hl (by decide) rfl (fun ls hl => ?_)
  refine lv_aload_n hx hb dJ7_fill_d0a16_2 rfl (lv_at hl 1 rfl) ?_
  obtain ⟨g1, h⟩ := zg_some h
  refine z_alen hx hb hK hL hW g1 dJ7_fill_d0a16_3 ?_
  refine lv_istore (lv' := [(4, .int (Int32.ofNat (len x0))), (3, .int (0 : Int32)), (0, .ref (ad x0)), (1, .long x1)]) hx hb dJ7_fill_d0a16_4 hl (by decide) rfl (fun ls hl => ?_)
  exact t_J7_fill_d0a16_6 C0 N  N h hW hS (lv_sub hl [2, 3, 1, 0] rfl)
def f_J7_fill_d0a16 (N : Nat) (K len : Nat → Nat) (a0 : Nat) (a1 : Int64) (M : ZM) : Option (ZM) := f_J7_fill_d0a16_0 N K len a0 a1 M
set_option maxRecDepth 100000 in
set_option maxHeartbeats 4000000 in
theorem m_J7_fill_d0a16 (l : Launch) {D : va_G} {cy : Nat → ClassId} {ad : Nat → Nat} {L : List Nat} {K len : Nat → Nat} (hL : zSh ad L K) (N : Nat) {a0 : Nat} {a1 : Int64} {M : ZM} {Mr : ZM} (h : f_J7_fill_d0a16 N K len a0 a1 M = some Mr) (sz : Nat) : Met l yJ7_fill_d0a16 wsJ7_fill_d0a16 ({ frames := 0, cells := 0, slots := 0, locals := 0 } : Room) (zPre D cy ad L K len sz [.ref (ad a0), .long a1] M) (zQv D cy ad L K len Mr sz) 0 0 (zA ad L sz) :=
  z_entry (Qf := fun sz => zQv D cy ad L K len Mr sz) (av := [.ref (ad a0), .long a1]) (by decide) rfl rfl hL (Nat.le_of_ble_eq_true rfl) (fun p e s m args below meth c C0 H locs ls hW hS hl => t_J7_fill_d0a16_0 C0 N h hW hS (lv_sub hl [0, 1] rfl))
def f_J7_fill_53178_5 (N : Nat) (K len : Nat → Nat) : Nat → Nat → Int32 → Int32 → Int32 → ZM → Option (ZM)
  | 0, _, _, _, _, _ => none
  | n + 1, x0, x1, x2, x3, M =>
    (if x3 ≤ x2 then
    some M
    else
    zg (zok K len x0 11 x2) (
    zl (zsI M x0 x2.toNatClampNeg x1) fun M3 => (
    f_J7_fill_53178_5 N K len  n x0 x1 (x2 + 1) x3 M3)))
set_option maxRecDepth 100000 in
set_option maxHeartbeats 4000000 in
theorem t_J7_fill_53178_5 {p : Program} {l : Launch} {e : Env} {s : State} {m : MethodId} {args : Array Value} {below : List Frame} {meth : Method} {c : Code} {D : va_G} {cy : Nat → ClassId} {ad : Nat → Nat} {L : List Nat} {K len : Nat → Nat} (C0 : zCx p s m c meth args cJ7_fill_53178 4 wsJ7_fill_53178 RJ7 none D cy ad L K) (N : Nat) {Mr : ZM} : ∀ (n : Nat) {x0 : Nat} {x1 : Int32} {x2 : Int32} {x3 : Int32} {M : ZM}, f_J7_fill_53178_5 N K len n x0 x1 x2 x3 M = some Mr → ∀ {H : Heap} {locs : List Loc} {ls : Array Slot}, zWd D cy ad L K len M H → va_S (zA ad L s.heap.size) s.heap H locs → lv_has ls 4 [(0, .ref (ad x0)), (1, .int x1), (2, .int x2), (3, .int x3)] → W p l e (headSpec wsJ7_fill_53178 ({ frames := 0, cells := 0, slots := 0, locals := 0 } : Room)).room s m args below meth c H locs 0 0 (MQ below (zQv D cy ad L K len Mr s.heap.size) args s 0 0 (zA ad L s.heap.size)) (F0 m 5 ls []) := by
  obtain ⟨hx, hb, hr, hml, hown, hts, hlocks, hK, hL, hE⟩ := id C0
  intro n
  induction n with
  | zero =>
    intro x0 x1 x2 x3 M h
    cases (show (none : Option (ZM)) = some Mr from h)
  | succ n ih =>
    intro x0 x1 x2 x3 M h H locs ls hW hS hl
    rw [f_J7_fill_53178_5] at h
    refine lv_iload_n hx hb dJ7_fill_53178_5 rfl (lv_at hl 2 rfl) ?_
    refine lv_iload_n hx hb dJ7_fill_53178_6 rfl (lv_at hl 3 rfl) ?_
    refine lv_icmp_ge (tgt := 20) hx hb dJ7_fill_53178_7 (by decide) (fun c1 => ?_) (fun c1 => ?_)
    · have h := zip c1 h
      exact z_vret hx hb hr hlocks hW hS (Option.some.inj h) dJ7_fill_53178_20
    · have h := zin c1 h
      refine lv_aload_n hx hb dJ7_fill_53178_10 rfl (lv_at hl 0 rfl) ?_
      refine lv_iload_n hx hb dJ7_fill_53178_11 rfl (lv_at hl 2 rfl) ?_
      refine lv_iload_n hx hb dJ7_fill_53178_12 rfl (lv_at hl 1 rfl) ?_
      obtain ⟨g2, h⟩ := zg_some h
      refine z_iast hx hb hK hL hW hS g2 dJ7_fill_53178_13 (fun H locs hW hS => ?_)
      obtain ⟨M3, eM4, h⟩ := zl_some h
      rw [← eM4] at hW
      refine lv_iinc (k := 2) (v := (x2 + 1)) (lv' := [(2, .int (x2 + 1)), (0, .ref (ad x0)), (1, .int x1), (3, .int x3)]) hx hb dJ7_fill_53178_14 hl rfl (by rw [show Int32.ofInt 1 = (1 : Int32) from by decide]) (by decide) rfl (fun ls hl => ?_)
      refine lv_goto (tgt := 5) hx hb dJ7_fill_53178_17 (by decide) ?_
      exact ih h hW hS (lv_sub hl [1, 2, 0, 3] rfl)
def f_J7_fill_53178_0 (N : Nat) (K len : Nat → Nat) (x0 : Nat) (x1 : Int32) (M : ZM) : Option (ZM) :=
zg (11 ≤ K x0 && K x0 ≤ 17) (
f_J7_fill_53178_5 N K len  N x0 x1 (0 : Int32) (Int32.ofNat (len x0)) M)
set_option maxRecDepth 100000 in
set_option maxHeartbeats 4000000 in
theorem t_J7_fill_53178_0 {p : Program} {l : Launch} {e : Env} {s : State} {m : MethodId} {args : Array Value} {below : List Frame} {meth : Method} {c : Code} {D : va_G} {cy : Nat → ClassId} {ad : Nat → Nat} {L : List Nat} {K len : Nat → Nat} (C0 : zCx p s m c meth args cJ7_fill_53178 4 wsJ7_fill_53178 RJ7 none D cy ad L K) (N : Nat) {x0 : Nat} {x1 : Int32} {M : ZM} {Mr : ZM} (h : f_J7_fill_53178_0 N K len x0 x1 M = some Mr) {H : Heap} {locs : List Loc} {ls : Array Slot} (hW : zWd D cy ad L K len M H) (hS : va_S (zA ad L s.heap.size) s.heap H locs) (hl : lv_has ls 4 [(0, .ref (ad x0)), (1, .int x1)]) : W p l e (headSpec wsJ7_fill_53178 ({ frames := 0, cells := 0, slots := 0, locals := 0 } : Room)).room s m args below meth c H locs 0 0 (MQ below (zQv D cy ad L K len Mr s.heap.size) args s 0 0 (zA ad L s.heap.size)) (F0 m 0 ls []) := by
  obtain ⟨hx, hb, hr, hml, hown, hts, hlocks, hK, hL, hE⟩ := id C0
  unfold f_J7_fill_53178_0 at h
  refine lv_iconst (v := 0) hx hb dJ7_fill_53178_0 (by decide) ?_
  refine lv_istore_n (lv' := [(2, .int (0 : Int32)), (0, .ref (ad x0)), (1, .int x1)]) hx hb dJ7_fill_53178_1 rfl hl (by decide) rfl (fun ls hl => ?_)
  refine lv_aload_n hx hb dJ7_fill_53178_2 rfl (lv_at hl 1 rfl) ?_
  obtain ⟨g1, h⟩ := zg_some h
  refine z_alen hx hb hK hL hW g1 dJ7_fill_53178_3 ?_
  refine lv_istore_n (lv' := [(3, .int (Int32.ofNat (len x0))), (2, .int (0 : Int32)), (0, .ref (ad x0)), (1, .int x1)]) hx hb dJ7_fill_53178_4 rfl hl (by decide) rfl (fun ls hl => ?_)
  exact t_J7_fill_53178_5 C0 N  N h hW hS (lv_sub hl [2, 3, 1, 0] rfl)
def f_J7_fill_53178 (N : Nat) (K len : Nat → Nat) (a0 : Nat) (a1 : Int32) (M : ZM) : Option (ZM) := f_J7_fill_53178_0 N K len a0 a1 M
set_option maxRecDepth 100000 in
set_option maxHeartbeats 4000000 in
theorem m_J7_fill_53178 (l : Launch) {D : va_G} {cy : Nat → ClassId} {ad : Nat → Nat} {L : List Nat} {K len : Nat → Nat} (hL : zSh ad L K) (N : Nat) {a0 : Nat} {a1 : Int32} {M : ZM} {Mr : ZM} (h : f_J7_fill_53178 N K len a0 a1 M = some Mr) (sz : Nat) : Met l yJ7_fill_53178 wsJ7_fill_53178 ({ frames := 0, cells := 0, slots := 0, locals := 0 } : Room) (zPre D cy ad L K len sz [.ref (ad a0), .int a1] M) (zQv D cy ad L K len Mr sz) 0 0 (zA ad L sz) :=
  z_entry (Qf := fun sz => zQv D cy ad L K len Mr sz) (av := [.ref (ad a0), .int a1]) (by decide) rfl rfl hL (Nat.le_of_ble_eq_true rfl) (fun p e s m args below meth c C0 H locs ls hW hS hl => t_J7_fill_53178_0 C0 N h hW hS (lv_sub hl [0, 1] rfl))
def f_X6_isPlace_0 (N : Nat) (x0 : Int32) : Option (Int32) :=
(if x0 < 0 then
some (0 : Int32)
else
(if (7 : Int32) ≤ x0 then
some (0 : Int32)
else
some (1 : Int32)))
set_option maxRecDepth 100000 in
set_option maxHeartbeats 4000000 in
theorem t_X6_isPlace_0 {p : Program} {l : Launch} {e : Env} {s : State} {m : MethodId} {args : Array Value} {below : List Frame} {meth : Method} {c : Code} {D : va_G} {cy : Nat → ClassId} {ad : Nat → Nat} {L : List Nat} {K len : Nat → Nat} (C0 : zCx p s m c meth args cX6_isPlace 1 wsX6_isPlace RX6 (some .boolean) D cy ad L K) (N : Nat) {x0 : Int32} {M : ZM} {r : Int32} (h : f_X6_isPlace_0 N x0 = some r) {H : Heap} {locs : List Loc} {ls : Array Slot} (hW : zWd D cy ad L K len M H) (hS : va_S (zA ad L s.heap.size) s.heap H locs) (hl : lv_has ls 1 [(0, .int x0)]) : W p l e (headSpec wsX6_isPlace ({ frames := 0, cells := 0, slots := 0, locals := 0 } : Room)).room s m args below meth c H locs 0 0 (MQ below (zQi D cy ad L K len r M s.heap.size) args s 0 0 (zA ad L s.heap.size)) (F0 m 0 ls []) := by
  obtain ⟨hx, hb, hr, hml, hown, hts, hlocks, hK, hL, hE⟩ := id C0
  unfold f_X6_isPlace_0 at h
  refine lv_iload_n hx hb dX6_isPlace_0 rfl (lv_at hl 0 rfl) ?_
  refine lv_if_lt (tgt := 14) hx hb dX6_isPlace_1 (by decide) (fun c1 => ?_) (fun c1 => ?_)
  · have h := zip c1 h
    refine lv_iconst (v := 0) hx hb dX6_isPlace_14 (by decide) ?_
    exact z_zret hx hb hr hlocks hW hS (by decide) (Option.some.inj h) rfl dX6_isPlace_15
  · have h := zin c1 h
    refine lv_iload_n hx hb dX6_isPlace_4 rfl (lv_at hl 0 rfl) ?_
    refine lv_bipush (v := 7) hx hb dX6_isPlace_5 (by decide) ?_
    refine lv_icmp_ge (tgt := 14) hx hb dX6_isPlace_7 (by decide) (fun c2 => ?_) (fun c2 => ?_)
    · have h := zip c2 h
      refine lv_iconst (v := 0) hx hb dX6_isPlace_14 (by decide) ?_
      exact z_zret hx hb hr hlocks hW hS (by decide) (Option.some.inj h) rfl dX6_isPlace_15
    · have h := zin c2 h
      refine lv_iconst (v := 1) hx hb dX6_isPlace_10 (by decide) ?_
      refine lv_goto (tgt := 15) hx hb dX6_isPlace_11 (by decide) ?_
      exact z_zret hx hb hr hlocks hW hS (by decide) (Option.some.inj h) rfl dX6_isPlace_15
def f_X6_isPlace (N : Nat) (a0 : Int32) : Option (Int32) := f_X6_isPlace_0 N a0
set_option maxRecDepth 100000 in
set_option maxHeartbeats 4000000 in
theorem m_X6_isPlace (l : Launch) {D : va_G} {cy : Nat → ClassId} {ad : Nat → Nat} {L : List Nat} {K len : Nat → Nat} (hL : zSh ad L K) (N : Nat) {a0 : Int32} {M : ZM} {r : Int32} (h : f_X6_isPlace N a0 = some r) (sz : Nat) : Met l yX6_isPlace wsX6_isPlace ({ frames := 0, cells := 0, slots := 0, locals := 0 } : Room) (zPre D cy ad L K len sz [.int a0] M) (zQi D cy ad L K len r M sz) 0 0 (zA ad L sz) :=
  z_entry (Qf := fun sz => zQi D cy ad L K len r M sz) (av := [.int a0]) (by decide) rfl rfl hL (Nat.le_of_ble_eq_true rfl) (fun p e s m args below meth c C0 H locs ls hW hS hl => t_X6_isPlace_0 C0 N h hW hS (lv_sub hl [0] rfl))
def f_X6_doCross_70 (N : Nat) : Option (Int32) :=
some (1 : Int32)
set_option maxRecDepth 100000 in
set_option maxHeartbeats 4000000 in
theorem t_X6_doCross_70 {p : Program} {l : Launch} {e : Env} {s : State} {m : MethodId} {args : Array Value} {below : List Frame} {meth : Method} {c : Code} {D : va_G} {cy : Nat → ClassId} {ad : Nat → Nat} {L : List Nat} {K len : Nat → Nat} (C0 : zCx p s m c meth args cX6_doCross 8 wsX6_doCross RX6 (some .boolean) D cy ad L K) (N : Nat) {M : ZM} {r : Int32} (h : f_X6_doCross_70 N  = some r) {H : Heap} {locs : List Loc} {ls : Array Slot} (hW : zWd D cy ad L K len M H) (hS : va_S (zA ad L s.heap.size) s.heap H locs) (hl : lv_has ls 8 []) : W p l e (headSpec wsX6_doCross ({ frames := 1, cells := 0, slots := 0, locals := 24 } : Room)).room s m args below meth c H locs 0 0 (MQ below (zQi D cy ad L K len r M s.heap.size) args s 0 0 (zA ad L s.heap.size)) (F0 m 70 ls []) := by
  obtain ⟨hx, hb, hr, hml, hown, hts, hlocks, hK, hL, hE⟩ := id C0
  unfold f_X6_doCross_70 at h
  refine lv_iconst (v := 1) hx hb dX6_doCross_70 (by decide) ?_
  refine lv_goto (tgt := 75) hx hb dX6_doCross_71 (by decide) ?_
  exact z_zret hx hb hr hlocks hW hS (by decide) (Option.some.inj h) rfl dX6_doCross_75
def f_X6_doCross_49 (N : Nat) (x4 : Int32) (x5 : Int32) (x6 : Int32) (x7 : Int32) : Option (Int32) :=
(if x4 ≤ x6 then
some (0 : Int32)
else
(if x7 ≤ x4 then
some (0 : Int32)
else
(if x5 ≤ x7 then
some (0 : Int32)
else
f_X6_doCross_70 N  )))
set_option maxRecDepth 100000 in
set_option maxHeartbeats 4000000 in
theorem t_X6_doCross_49 {p : Program} {l : Launch} {e : Env} {s : State} {m : MethodId} {args : Array Value} {below : List Frame} {meth : Method} {c : Code} {D : va_G} {cy : Nat → ClassId} {ad : Nat → Nat} {L : List Nat} {K len : Nat → Nat} (C0 : zCx p s m c meth args cX6_doCross 8 wsX6_doCross RX6 (some .boolean) D cy ad L K) (N : Nat) {x4 : Int32} {x5 : Int32} {x6 : Int32} {x7 : Int32} {M : ZM} {r : Int32} (h : f_X6_doCross_49 N x4 x5 x6 x7 = some r) {H : Heap} {locs : List Loc} {ls : Array Slot} (hW : zWd D cy ad L K len M H) (hS : va_S (zA ad L s.heap.size) s.heap H locs) (hl : lv_has ls 8 [(4, .int x4), (5, .int x5), (6, .int x6), (7, .int x7)]) : W p l e (headSpec wsX6_doCross ({ frames := 1, cells := 0, slots := 0, locals := 24 } : Room)).room s m args below meth c H locs 0 0 (MQ below (zQi D cy ad L K len r M s.heap.size) args s 0 0 (zA ad L s.heap.size)) (F0 m 49 ls []) := by
  obtain ⟨hx, hb, hr, hml, hown, hts, hlocks, hK, hL, hE⟩ := id C0
  unfold f_X6_doCross_49 at h
  refine lv_iload hx hb dX6_doCross_49 (lv_at hl 2 rfl) ?_
  refine lv_iload hx hb dX6_doCross_51 (lv_at hl 0 rfl) ?_
  refine lv_icmp_ge (tgt := 74) hx hb dX6_doCross_53 (by decide) (fun c1 => ?_) (fun c1 => ?_)
  · have h := zip c1 h
    refine lv_iconst (v := 0) hx hb dX6_doCross_74 (by decide) ?_
    exact z_zret hx hb hr hlocks hW hS (by decide) (Option.some.inj h) rfl dX6_doCross_75
  · have h := zin c1 h
    refine lv_iload hx hb dX6_doCross_56 (lv_at hl 0 rfl) ?_
    refine lv_iload hx hb dX6_doCross_58 (lv_at hl 3 rfl) ?_
    refine lv_icmp_ge (tgt := 74) hx hb dX6_doCross_60 (by decide) (fun c2 => ?_) (fun c2 => ?_)
    · have h := zip c2 h
      refine lv_iconst (v := 0) hx hb dX6_doCross_74 (by decide) ?_
      exact z_zret hx hb hr hlocks hW hS (by decide) (Option.some.inj h) rfl dX6_doCross_75
    · have h := zin c2 h
      refine lv_iload hx hb dX6_doCross_63 (lv_at hl 3 rfl) ?_
      refine lv_iload hx hb dX6_doCross_65 (lv_at hl 1 rfl) ?_
      refine lv_icmp_ge (tgt := 74) hx hb dX6_doCross_67 (by decide) (fun c3 => ?_) (fun c3 => ?_)
      · have h := zip c3 h
        refine lv_iconst (v := 0) hx hb dX6_doCross_74 (by decide) ?_
        exact z_zret hx hb hr hlocks hW hS (by decide) (Option.some.inj h) rfl dX6_doCross_75
      · have h := zin c3 h
        exact t_X6_doCross_70 C0 N  h hW hS (lv_sub hl [] rfl)
def f_X6_doCross_0 (N : Nat) (x0 : Int32) (x1 : Int32) (x2 : Int32) (x3 : Int32) : Option (Int32) :=
(if (if x3 < x2 then x3 else x2) ≤ (if x1 < x0 then x1 else x0) then
f_X6_doCross_49 N  (if x1 < x0 then x1 else x0) (if x0 < x1 then x1 else x0) (if x3 < x2 then x3 else x2) (if x2 < x3 then x3 else x2)
else
(if (if x0 < x1 then x1 else x0) ≤ (if x3 < x2 then x3 else x2) then
f_X6_doCross_49 N  (if x1 < x0 then x1 else x0) (if x0 < x1 then x1 else x0) (if x3 < x2 then x3 else x2) (if x2 < x3 then x3 else x2)
else
(if (if x0 < x1 then x1 else x0) < (if x2 < x3 then x3 else x2) then
f_X6_doCross_70 N  
else
f_X6_doCross_49 N  (if x1 < x0 then x1 else x0) (if x0 < x1 then x1 else x0) (if x3 < x2 then x3 else x2) (if x2 < x3 then x3 else x2))))
set_option maxRecDepth 100000 in
set_option maxHeartbeats 4000000 in
theorem t_X6_doCross_0 {p : Program} {l : Launch} {e : Env} {s : State} {m : MethodId} {args : Array Value} {below : List Frame} {meth : Method} {c : Code} {D : va_G} {cy : Nat → ClassId} {ad : Nat → Nat} {L : List Nat} {K len : Nat → Nat} (C0 : zCx p s m c meth args cX6_doCross 8 wsX6_doCross RX6 (some .boolean) D cy ad L K) (N : Nat) {x0 : Int32} {x1 : Int32} {x2 : Int32} {x3 : Int32} {M : ZM} {r : Int32} (h : f_X6_doCross_0 N x0 x1 x2 x3 = some r) {H : Heap} {locs : List Loc} {ls : Array Slot} (hW : zWd D cy ad L K len M H) (hS : va_S (zA ad L s.heap.size) s.heap H locs) (hl : lv_has ls 8 [(0, .int x0), (1, .int x1), (2, .int x2), (3, .int x3)]) : W p l e (headSpec wsX6_doCross ({ frames := 1, cells := 0, slots := 0, locals := 24 } : Room)).room s m args below meth c H locs 0 0 (MQ below (zQi D cy ad L K len r M s.heap.size) args s 0 0 (zA ad L s.heap.size)) (F0 m 0 ls []) := by
  obtain ⟨hx, hb, hr, hml, hown, hts, hlocks, hK, hL, hE⟩ := id C0
  unfold f_X6_doCross_0 at h
  refine lv_iload_n hx hb dX6_doCross_0 rfl (lv_at hl 0 rfl) ?_
  refine lv_iload_n hx hb dX6_doCross_1 rfl (lv_at hl 1 rfl) ?_
  refine va_mmin (own := RX6) hx hb (hml.trans hl.1.symm) hown (hts (.methodLink RX6 249 Lib.Math.min.name) (by decide +kernel)) (hts (.static Lib.Math.min.name) (by decide +kernel)) (hts (.initialized "java/lang/Math") (by decide +kernel)) (hts (.code Lib.Math.min.name Lib.Math.min.code 2 (some .int)) (by decide +kernel)) (Nat.le_of_ble_eq_true rfl) (Nat.le_of_ble_eq_true rfl) (Nat.zero_le _) (Nat.zero_le _) dX6_doCross_2 ?_
  refine lv_istore (lv' := [(4, .int (if x1 < x0 then x1 else x0)), (0, .int x0), (1, .int x1), (2, .int x2), (3, .int x3)]) hx hb dX6_doCross_5 hl (by decide) rfl (fun ls hl => ?_)
  refine lv_iload_n hx hb dX6_doCross_7 rfl (lv_at hl 1 rfl) ?_
  refine lv_iload_n hx hb dX6_doCross_8 rfl (lv_at hl 2 rfl) ?_
  refine va_mmax (own := RX6) hx hb (hml.trans hl.1.symm) hown (hts (.methodLink RX6 252 Lib.Math.max.name) (by decide +kernel)) (hts (.static Lib.Math.max.name) (by decide +kernel)) (hts (.initialized "java/lang/Math") (by decide +kernel)) (hts (.code Lib.Math.max.name Lib.Math.max.code 2 (some .int)) (by decide +kernel)) (Nat.le_of_ble_eq_true rfl) (Nat.le_of_ble_eq_true rfl) (Nat.zero_le _) (Nat.zero_le _) dX6_doCross_9 ?_
  refine lv_istore (lv' := [(5, .int (if x0 < x1 then x1 else x0)), (4, .int (if x1 < x0 then x1 else x0)), (0, .int x0), (1, .int x1), (2, .int x2), (3, .int x3)]) hx hb dX6_doCross_12 hl (by decide) rfl (fun ls hl => ?_)
  refine lv_iload_n hx hb dX6_doCross_14 rfl (lv_at hl 4 rfl) ?_
  refine lv_iload_n hx hb dX6_doCross_15 rfl (lv_at hl 5 rfl) ?_
  refine va_mmin (own := RX6) hx hb (hml.trans hl.1.symm) hown (hts (.methodLink RX6 249 Lib.Math.min.name) (by decide +kernel)) (hts (.static Lib.Math.min.name) (by decide +kernel)) (hts (.initialized "java/lang/Math") (by decide +kernel)) (hts (.code Lib.Math.min.name Lib.Math.min.code 2 (some .int)) (by decide +kernel)) (Nat.le_of_ble_eq_true rfl) (Nat.le_of_ble_eq_true rfl) (Nat.zero_le _) (Nat.zero_le _) dX6_doCross_16 ?_
  refine lv_istore (lv' := [(6, .int (if x3 < x2 then x3 else x2)), (5, .int (if x0 < x1 then x1 else x0)), (4, .int (if x1 < x0 then x1 else x0)), (0, .int x0), (1, .int x1), (2, .int x2), (3, .int x3)]) hx hb dX6_doCross_19 hl (by decide) rfl (fun ls hl => ?_)
  refine lv_iload_n hx hb dX6_doCross_21 rfl (lv_at hl 5 rfl) ?_
  refine lv_iload_n hx hb dX6_doCross_22 rfl (lv_at hl 6 rfl) ?_
  refine va_mmax (own := RX6) hx hb (hml.trans hl.1.symm) hown (hts (.methodLink RX6 252 Lib.Math.max.name) (by decide +kernel)) (hts (.static Lib.Math.max.name) (by decide +kernel)) (hts (.initialized "java/lang/Math") (by decide +kernel)) (hts (.code Lib.Math.max.name Lib.Math.max.code 2 (some .int)) (by decide +kernel)) (Nat.le_of_ble_eq_true rfl) (Nat.le_of_ble_eq_true rfl) (Nat.zero_le _) (Nat.zero_le _) dX6_doCross_23 ?_
  refine lv_istore (lv' := [(7, .int (if x2 < x3 then x3 else x2)), (6, .int (if x3 < x2 then x3 else x2)), (5, .int (if x0 < x1 then x1 else x0)), (4, .int (if x1 < x0 then x1 else x0)), (0, .int x0), (1, .int x1), (2, .int x2), (3, .int x3)]) hx hb dX6_doCross_26 hl (by decide) rfl (fun ls hl => ?_)
  refine lv_iload hx hb dX6_doCross_28 (lv_at hl 3 rfl) ?_
  refine lv_iload hx hb dX6_doCross_30 (lv_at hl 1 rfl) ?_
  refine lv_icmp_ge (tgt := 49) hx hb dX6_doCross_32 (by decide) (fun c1 => ?_) (fun c1 => ?_)
  · have h := zip c1 h
    exact t_X6_doCross_49 C0 N  h hW hS (lv_sub hl [3, 2, 1, 0] rfl)
  · have h := zin c1 h
    refine lv_iload hx hb dX6_doCross_35 (lv_at hl 1 rfl) ?_
    refine lv_iload hx hb dX6_doCross_37 (lv_at hl 2 rfl) ?_
    refine lv_icmp_ge (tgt := 49) hx hb dX6_doCross_39 (by decide) (fun c2 => ?_) (fun c2 => ?_)
    · have h := zip c2 h
      exact t_X6_doCross_49 C0 N  h hW hS (lv_sub hl [3, 2, 1, 0] rfl)
    · have h := zin c2 h
      refine lv_iload hx hb dX6_doCross_42 (lv_at hl 2 rfl) ?_
      refine lv_iload hx hb dX6_doCross_44 (lv_at hl 0 rfl) ?_
      refine lv_icmp_lt (tgt := 70) hx hb dX6_doCross_46 (by decide) (fun c3 => ?_) (fun c3 => ?_)
      · have h := zip c3 h
        exact t_X6_doCross_70 C0 N  h hW hS (lv_sub hl [] rfl)
      · have h := zin c3 h
        exact t_X6_doCross_49 C0 N  h hW hS (lv_sub hl [3, 2, 1, 0] rfl)
def f_X6_doCross (N : Nat) (a0 : Int32) (a1 : Int32) (a2 : Int32) (a3 : Int32) : Option (Int32) := f_X6_doCross_0 N a0 a1 a2 a3
set_option maxRecDepth 100000 in
set_option maxHeartbeats 4000000 in
theorem m_X6_doCross (l : Launch) {D : va_G} {cy : Nat → ClassId} {ad : Nat → Nat} {L : List Nat} {K len : Nat → Nat} (hL : zSh ad L K) (N : Nat) {a0 : Int32} {a1 : Int32} {a2 : Int32} {a3 : Int32} {M : ZM} {r : Int32} (h : f_X6_doCross N a0 a1 a2 a3 = some r) (sz : Nat) : Met l yX6_doCross wsX6_doCross ({ frames := 1, cells := 0, slots := 0, locals := 24 } : Room) (zPre D cy ad L K len sz [.int a0, .int a1, .int a2, .int a3] M) (zQi D cy ad L K len r M sz) 0 0 (zA ad L sz) :=
  z_entry (Qf := fun sz => zQi D cy ad L K len r M sz) (av := [.int a0, .int a1, .int a2, .int a3]) (by decide) rfl rfl hL (Nat.le_of_ble_eq_true rfl) (fun p e s m args below meth c C0 H locs ls hW hS hl => t_X6_doCross_0 C0 N h hW hS (lv_sub hl [0, 1, 2, 3] rfl))
def f_X6_byDistance_0 (N : Nat) (x0 : Int32) (x1 : Int32) : Option (Int32) :=
(if x0 ≤ x1 then
some ((((20 : Int32) + ((2 : Int32) * (if (if (0 : Int32) ≤ (x0 - x1) then (x0 - x1) else 0 - (x0 - x1)) < (4 : Int32) then (if (0 : Int32) ≤ (x0 - x1) then (x0 - x1) else 0 - (x0 - x1)) else (4 : Int32)))) - (2 : Int32)) + (0 : Int32))
else
some ((((20 : Int32) + ((2 : Int32) * (if (if (0 : Int32) ≤ (x0 - x1) then (x0 - x1) else 0 - (x0 - x1)) < (4 : Int32) then (if (0 : Int32) ≤ (x0 - x1) then (x0 - x1) else 0 - (x0 - x1)) else (4 : Int32)))) - (2 : Int32)) + (1 : Int32)))
set_option maxRecDepth 100000 in
set_option maxHeartbeats 4000000 in
theorem t_X6_byDistance_0 {p : Program} {l : Launch} {e : Env} {s : State} {m : MethodId} {args : Array Value} {below : List Frame} {meth : Method} {c : Code} {D : va_G} {cy : Nat → ClassId} {ad : Nat → Nat} {L : List Nat} {K len : Nat → Nat} (C0 : zCx p s m c meth args cX6_byDistance 3 wsX6_byDistance RX6 (some .int) D cy ad L K) (N : Nat) {x0 : Int32} {x1 : Int32} {M : ZM} {r : Int32} (h : f_X6_byDistance_0 N x0 x1 = some r) {H : Heap} {locs : List Loc} {ls : Array Slot} (hW : zWd D cy ad L K len M H) (hS : va_S (zA ad L s.heap.size) s.heap H locs) (hl : lv_has ls 3 [(0, .int x0), (1, .int x1)]) : W p l e (headSpec wsX6_byDistance ({ frames := 1, cells := 0, slots := 0, locals := 24 } : Room)).room s m args below meth c H locs 0 0 (MQ below (zQi D cy ad L K len r M s.heap.size) args s 0 0 (zA ad L s.heap.size)) (F0 m 0 ls []) := by
  obtain ⟨hx, hb, hr, hml, hown, hts, hlocks, hK, hL, hE⟩ := id C0
  unfold f_X6_byDistance_0 at h
  refine lv_iload_n hx hb dX6_byDistance_0 rfl (lv_at hl 0 rfl) ?_
  refine lv_iload_n hx hb dX6_byDistance_1 rfl (lv_at hl 1 rfl) ?_
  refine lv_isub hx hb dX6_byDistance_2 ?_
  refine va_mabs (own := RX6) hx hb (hml.trans hl.1.symm) hown (hts (.methodLink RX6 246 Lib.Math.abs.name) (by decide +kernel)) (hts (.static Lib.Math.abs.name) (by decide +kernel)) (hts (.initialized "java/lang/Math") (by decide +kernel)) (hts (.code Lib.Math.abs.name Lib.Math.abs.code 1 (some .int)) (by decide +kernel)) (Nat.le_of_ble_eq_true rfl) (Nat.le_of_ble_eq_true rfl) (Nat.zero_le _) (Nat.zero_le _) dX6_byDistance_3 ?_
  refine lv_istore_n (lv' := [(2, .int (if (0 : Int32) ≤ (x0 - x1) then (x0 - x1) else 0 - (x0 - x1))), (0, .int x0), (1, .int x1)]) hx hb dX6_byDistance_6 rfl hl (by decide) rfl (fun ls hl => ?_)
  refine lv_bipush (v := 20) hx hb dX6_byDistance_7 (by decide) ?_
  refine lv_iconst (v := 2) hx hb dX6_byDistance_9 (by decide) ?_
  refine lv_iconst (v := 4) hx hb dX6_byDistance_10 (by decide) ?_
  refine lv_iload_n hx hb dX6_byDistance_11 rfl (lv_at hl 0 rfl) ?_
  refine va_mmin (own := RX6) hx hb (hml.trans hl.1.symm) hown (hts (.methodLink RX6 249 Lib.Math.min.name) (by decide +kernel)) (hts (.static Lib.Math.min.name) (by decide +kernel)) (hts (.initialized "java/lang/Math") (by decide +kernel)) (hts (.code Lib.Math.min.name Lib.Math.min.code 2 (some .int)) (by decide +kernel)) (Nat.le_of_ble_eq_true rfl) (Nat.le_of_ble_eq_true rfl) (Nat.zero_le _) (Nat.zero_le _) dX6_byDistance_12 ?_
  refine lv_imul hx hb dX6_byDistance_15 ?_
  refine lv_iadd hx hb dX6_byDistance_16 ?_
  refine lv_iconst (v := 2) hx hb dX6_byDistance_17 (by decide) ?_
  refine lv_isub hx hb dX6_byDistance_18 ?_
  refine lv_iload_n hx hb dX6_byDistance_19 rfl (lv_at hl 1 rfl) ?_
  refine lv_iload_n hx hb dX6_byDistance_20 rfl (lv_at hl 2 rfl) ?_
  refine lv_icmp_le (tgt := 28) hx hb dX6_byDistance_21 (by decide) (fun c1 => ?_) (fun c1 => ?_)
  · have h := zip c1 h
    refine lv_iconst (v := 0) hx hb dX6_byDistance_28 (by decide) ?_
    refine lv_iadd hx hb dX6_byDistance_29 ?_
    exact z_iret hx hb hr hlocks hW hS (Option.some.inj h) rfl dX6_byDistance_30
  · have h := zin c1 h
    refine lv_iconst (v := 1) hx hb dX6_byDistance_24 (by decide) ?_
    refine lv_goto (tgt := 29) hx hb dX6_byDistance_25 (by decide) ?_
    refine lv_iadd hx hb dX6_byDistance_29 ?_
    exact z_iret hx hb hr hlocks hW hS (Option.some.inj h) rfl dX6_byDistance_30
def f_X6_byDistance (N : Nat) (a0 : Int32) (a1 : Int32) : Option (Int32) := f_X6_byDistance_0 N a0 a1
set_option maxRecDepth 100000 in
set_option maxHeartbeats 4000000 in
theorem m_X6_byDistance (l : Launch) {D : va_G} {cy : Nat → ClassId} {ad : Nat → Nat} {L : List Nat} {K len : Nat → Nat} (hL : zSh ad L K) (N : Nat) {a0 : Int32} {a1 : Int32} {M : ZM} {r : Int32} (h : f_X6_byDistance N a0 a1 = some r) (sz : Nat) : Met l yX6_byDistance wsX6_byDistance ({ frames := 1, cells := 0, slots := 0, locals := 24 } : Room) (zPre D cy ad L K len sz [.int a0, .int a1] M) (zQi D cy ad L K len r M sz) 0 0 (zA ad L sz) :=
  z_entry (Qf := fun sz => zQi D cy ad L K len r M sz) (av := [.int a0, .int a1]) (by decide) rfl rfl hL (Nat.le_of_ble_eq_true rfl) (fun p e s m args below meth c C0 H locs ls hW hS hl => t_X6_byDistance_0 C0 N h hW hS (lv_sub hl [0, 1] rfl))
def f_X6_rowOfHeads_0 (N : Nat) (x0 : Int64) : Option (Int64) :=
(f_J9_floorMod_f86c9 N (-x0) (117649 : Int64)).bind fun q1 => (
some q1)
set_option maxRecDepth 100000 in
set_option maxHeartbeats 4000000 in
theorem t_X6_rowOfHeads_0 {p : Program} {l : Launch} {e : Env} {s : State} {m : MethodId} {args : Array Value} {below : List Frame} {meth : Method} {c : Code} {D : va_G} {cy : Nat → ClassId} {ad : Nat → Nat} {L : List Nat} {K len : Nat → Nat} (C0 : zCx p s m c meth args cX6_rowOfHeads 2 wsX6_rowOfHeads RX6 (some .long) D cy ad L K) (N : Nat) {x0 : Int64} {M : ZM} {r : Int64} (h : f_X6_rowOfHeads_0 N x0 = some r) {H : Heap} {locs : List Loc} {ls : Array Slot} (hW : zWd D cy ad L K len M H) (hS : va_S (zA ad L s.heap.size) s.heap H locs) (hl : lv_has ls 2 [(0, .long x0)]) : W p l e (headSpec wsX6_rowOfHeads ({ frames := 1, cells := 0, slots := 0, locals := 25 } : Room)).room s m args below meth c H locs 0 0 (MQ below (zQl D cy ad L K len r M s.heap.size) args s 0 0 (zA ad L s.heap.size)) (F0 m 0 ls []) := by
  obtain ⟨hx, hb, hr, hml, hown, hts, hlocks, hK, hL, hE⟩ := id C0
  unfold f_X6_rowOfHeads_0 at h
  refine lv_lload_n hx hb dX6_rowOfHeads_0 rfl (lv_at hl 0 rfl) ?_
  refine lv_lneg hx hb dX6_rowOfHeads_1 ?_
  refine lv_ldc2 hx hb hown (hts (.constantLong RX6 232 (117649)) (by decide +kernel)) dX6_rowOfHeads_2 ?_
  obtain ⟨q1, e2, h⟩ := zb_some h
  refine z_calll hS (va_runS (As := [.long (-x0), .long (117649 : Int64)]) (rest := []) ⟨hx, hb, hml, hown, hts⟩ (m_J9_floorMod_f86c9 l (M := M) hL N e2 H.size) (va_cwS 2 hts gX6_rowOfHeads_J9_floorMod_f86c9 rfl rfl rfl (by decide +kernel) ⟨Nat.le_of_ble_eq_true rfl, Nat.le_of_ble_eq_true rfl⟩) (z_preS hK hE hW hS [.long (-x0), .long (117649 : Int64)]) rfl rfl hl.1 rfl (lv_room (Nat.le_of_ble_eq_true rfl)) dX6_rowOfHeads_5 ⟨Nat.le_of_ble_eq_true rfl, Nat.le_of_ble_eq_true rfl⟩) (fun H locs hW hS => ?_)
  exact z_lret hx hb hr hlocks hW hS (Option.some.inj h) rfl dX6_rowOfHeads_8
def f_X6_rowOfHeads (N : Nat) (a0 : Int64) : Option (Int64) := f_X6_rowOfHeads_0 N a0
set_option maxRecDepth 100000 in
set_option maxHeartbeats 4000000 in
theorem m_X6_rowOfHeads (l : Launch) {D : va_G} {cy : Nat → ClassId} {ad : Nat → Nat} {L : List Nat} {K len : Nat → Nat} (hL : zSh ad L K) (N : Nat) {a0 : Int64} {M : ZM} {r : Int64} (h : f_X6_rowOfHeads N a0 = some r) (sz : Nat) : Met l yX6_rowOfHeads wsX6_rowOfHeads ({ frames := 1, cells := 0, slots := 0, locals := 25 } : Room) (zPre D cy ad L K len sz [.long a0] M) (zQl D cy ad L K len r M sz) 0 0 (zA ad L sz) :=
  z_entry (Qf := fun sz => zQl D cy ad L K len r M sz) (av := [.long a0]) (by decide) rfl rfl hL (Nat.le_of_ble_eq_true rfl) (fun p e s m args below meth c C0 H locs ls hW hS hl => t_X6_rowOfHeads_0 C0 N h hW hS (lv_sub hl [0] rfl))
def f_X6_scoreIn_0 (N : Nat) (x0 : Int64) : Option (Int32) :=
(f_X6_rowOfHeads N x0).bind fun q1 => (
some (((x0 + q1) / (117649 : Int64)).toInt32))
set_option maxRecDepth 100000 in
set_option maxHeartbeats 4000000 in
theorem t_X6_scoreIn_0 {p : Program} {l : Launch} {e : Env} {s : State} {m : MethodId} {args : Array Value} {below : List Frame} {meth : Method} {c : Code} {D : va_G} {cy : Nat → ClassId} {ad : Nat → Nat} {L : List Nat} {K len : Nat → Nat} (C0 : zCx p s m c meth args cX6_scoreIn 2 wsX6_scoreIn RX6 (some .int) D cy ad L K) (N : Nat) {x0 : Int64} {M : ZM} {r : Int32} (h : f_X6_scoreIn_0 N x0 = some r) {H : Heap} {locs : List Loc} {ls : Array Slot} (hW : zWd D cy ad L K len M H) (hS : va_S (zA ad L s.heap.size) s.heap H locs) (hl : lv_has ls 2 [(0, .long x0)]) : W p l e (headSpec wsX6_scoreIn ({ frames := 2, cells := 0, slots := 0, locals := 46 } : Room)).room s m args below meth c H locs 0 0 (MQ below (zQi D cy ad L K len r M s.heap.size) args s 0 0 (zA ad L s.heap.size)) (F0 m 0 ls []) := by
  obtain ⟨hx, hb, hr, hml, hown, hts, hlocks, hK, hL, hE⟩ := id C0
  unfold f_X6_scoreIn_0 at h
  refine lv_lload_n hx hb dX6_scoreIn_0 rfl (lv_at hl 0 rfl) ?_
  refine lv_lload_n hx hb dX6_scoreIn_1 rfl (lv_at hl 0 rfl) ?_
  obtain ⟨q1, e2, h⟩ := zb_some h
  refine z_calll hS (va_runS (As := [.long x0]) (rest := [.long x0]) ⟨hx, hb, hml, hown, hts⟩ (m_X6_rowOfHeads l (M := M) hL N e2 H.size) (va_cwS 1 hts gX6_scoreIn_X6_rowOfHeads rfl rfl rfl (by decide +kernel) ⟨Nat.le_of_ble_eq_true rfl, Nat.le_of_ble_eq_true rfl⟩) (z_preS hK hE hW hS [.long x0]) rfl rfl hl.1 rfl (lv_room (Nat.le_of_ble_eq_true rfl)) dX6_scoreIn_2 ⟨Nat.le_of_ble_eq_true rfl, Nat.le_of_ble_eq_true rfl⟩) (fun H locs hW hS => ?_)
  refine lv_ladd hx hb dX6_scoreIn_5 ?_
  refine lv_ldc2 hx hb hown (hts (.constantLong RX6 232 (117649)) (by decide +kernel)) dX6_scoreIn_6 ?_
  refine lv_ldiv hx hb dX6_scoreIn_9 (by decide) ?_
  refine lv_l2i hx hb dX6_scoreIn_10 rfl ?_
  exact z_iret hx hb hr hlocks hW hS (Option.some.inj h) rfl dX6_scoreIn_11
def f_X6_scoreIn (N : Nat) (a0 : Int64) : Option (Int32) := f_X6_scoreIn_0 N a0
set_option maxRecDepth 100000 in
set_option maxHeartbeats 4000000 in
theorem m_X6_scoreIn (l : Launch) {D : va_G} {cy : Nat → ClassId} {ad : Nat → Nat} {L : List Nat} {K len : Nat → Nat} (hL : zSh ad L K) (N : Nat) {a0 : Int64} {M : ZM} {r : Int32} (h : f_X6_scoreIn N a0 = some r) (sz : Nat) : Met l yX6_scoreIn wsX6_scoreIn ({ frames := 2, cells := 0, slots := 0, locals := 46 } : Room) (zPre D cy ad L K len sz [.long a0] M) (zQi D cy ad L K len r M sz) 0 0 (zA ad L sz) :=
  z_entry (Qf := fun sz => zQi D cy ad L K len r M sz) (av := [.long a0]) (by decide) rfl rfl hL (Nat.le_of_ble_eq_true rfl) (fun p e s m args below meth c C0 H locs ls hW hS hl => t_X6_scoreIn_0 C0 N h hW hS (lv_sub hl [0] rfl))
def f_X6_headIn_9 (N : Nat) : Nat → Int32 → Int64 → Int32 → Option (Int32)
  | 0, _, _, _ => none
  | n + 1, x2, x3, x5 =>
    (if x5 ≤ x2 then
    some ((x3 - x3 / (7 : Int64) * (7 : Int64)).toInt32)
    else
    f_X6_headIn_9 N  n x2 (x3 / (7 : Int64)) (x5 + (-1)))
set_option maxRecDepth 100000 in
set_option maxHeartbeats 4000000 in
theorem t_X6_headIn_9 {p : Program} {l : Launch} {e : Env} {s : State} {m : MethodId} {args : Array Value} {below : List Frame} {meth : Method} {c : Code} {D : va_G} {cy : Nat → ClassId} {ad : Nat → Nat} {L : List Nat} {K len : Nat → Nat} (C0 : zCx p s m c meth args cX6_headIn 6 wsX6_headIn RX6 (some .int) D cy ad L K) (N : Nat) {M : ZM} {r : Int32} : ∀ (n : Nat) {x2 : Int32} {x3 : Int64} {x5 : Int32}, f_X6_headIn_9 N n x2 x3 x5 = some r → ∀ {H : Heap} {locs : List Loc} {ls : Array Slot}, zWd D cy ad L K len M H → va_S (zA ad L s.heap.size) s.heap H locs → lv_has ls 6 [(2, .int x2), (3, .long x3), (5, .int x5)] → W p l e (headSpec wsX6_headIn ({ frames := 2, cells := 0, slots := 0, locals := 46 } : Room)).room s m args below meth c H locs 0 0 (MQ below (zQi D cy ad L K len r M s.heap.size) args s 0 0 (zA ad L s.heap.size)) (F0 m 9 ls []) := by
  obtain ⟨hx, hb, hr, hml, hown, hts, hlocks, hK, hL, hE⟩ := id C0
  intro n
  induction n with
  | zero =>
    intro x2 x3 x5 h
    cases (show (none : Option (Int32)) = some r from h)
  | succ n ih =>
    intro x2 x3 x5 h H locs ls hW hS hl
    rw [f_X6_headIn_9] at h
    refine lv_iload hx hb dX6_headIn_9 (lv_at hl 2 rfl) ?_
    refine lv_iload_n hx hb dX6_headIn_11 rfl (lv_at hl 0 rfl) ?_
    refine lv_icmp_le (tgt := 27) hx hb dX6_headIn_12 (by decide) (fun c1 => ?_) (fun c1 => ?_)
    · have h := zip c1 h
      refine lv_lload_n hx hb dX6_headIn_27 rfl (lv_at hl 1 rfl) ?_
      refine lv_ldc2 hx hb hown (hts (.constantLong RX6 244 (7)) (by decide +kernel)) dX6_headIn_28 ?_
      refine lv_lrem hx hb dX6_headIn_31 (by decide) ?_
      refine lv_l2i hx hb dX6_headIn_32 rfl ?_
      exact z_iret hx hb hr hlocks hW hS (Option.some.inj h) rfl dX6_headIn_33
    · have h := zin c1 h
      refine lv_lload_n hx hb dX6_headIn_15 rfl (lv_at hl 1 rfl) ?_
      refine lv_ldc2 hx hb hown (hts (.constantLong RX6 244 (7)) (by decide +kernel)) dX6_headIn_16 ?_
      refine lv_ldiv hx hb dX6_headIn_19 (by decide) ?_
      refine lv_lstore_n (lv' := [(3, .long (x3 / (7 : Int64))), (2, .int x2), (5, .int x5)]) hx hb dX6_headIn_20 rfl hl (by decide) rfl (fun ls hl => ?_)
      refine lv_iinc (k := 2) (v := (x5 + (-1))) (lv' := [(5, .int (x5 + (-1))), (3, .long (x3 / (7 : Int64))), (2, .int x2)]) hx hb dX6_headIn_21 hl rfl (by rw [show Int32.ofInt (-1) = (-1 : Int32) from by decide]) (by decide) rfl (fun ls hl => ?_)
      refine lv_goto (tgt := 9) hx hb dX6_headIn_24 (by decide) ?_
      exact ih h hW hS (lv_sub hl [2, 1, 0] rfl)
def f_X6_headIn_0 (N : Nat) (x0 : Int64) (x2 : Int32) : Option (Int32) :=
(f_X6_rowOfHeads N x0).bind fun q1 => (
f_X6_headIn_9 N  N x2 q1 (6 : Int32))
set_option maxRecDepth 100000 in
set_option maxHeartbeats 4000000 in
theorem t_X6_headIn_0 {p : Program} {l : Launch} {e : Env} {s : State} {m : MethodId} {args : Array Value} {below : List Frame} {meth : Method} {c : Code} {D : va_G} {cy : Nat → ClassId} {ad : Nat → Nat} {L : List Nat} {K len : Nat → Nat} (C0 : zCx p s m c meth args cX6_headIn 6 wsX6_headIn RX6 (some .int) D cy ad L K) (N : Nat) {x0 : Int64} {x2 : Int32} {M : ZM} {r : Int32} (h : f_X6_headIn_0 N x0 x2 = some r) {H : Heap} {locs : List Loc} {ls : Array Slot} (hW : zWd D cy ad L K len M H) (hS : va_S (zA ad L s.heap.size) s.heap H locs) (hl : lv_has ls 6 [(0, .long x0), (2, .int x2)]) : W p l e (headSpec wsX6_headIn ({ frames := 2, cells := 0, slots := 0, locals := 46 } : Room)).room s m args below meth c H locs 0 0 (MQ below (zQi D cy ad L K len r M s.heap.size) args s 0 0 (zA ad L s.heap.size)) (F0 m 0 ls []) := by
  obtain ⟨hx, hb, hr, hml, hown, hts, hlocks, hK, hL, hE⟩ := id C0
  unfold f_X6_headIn_0 at h
  refine lv_lload_n hx hb dX6_headIn_0 rfl (lv_at hl 0 rfl) ?_
  obtain ⟨q1, e2, h⟩ := zb_some h
  refine z_calll hS (va_runS (As := [.long x0]) (rest := []) ⟨hx, hb, hml, hown, hts⟩ (m_X6_rowOfHeads l (M := M) hL N e2 H.size) (va_cwS 1 hts gX6_headIn_X6_rowOfHeads rfl rfl rfl (by decide +kernel) ⟨Nat.le_of_ble_eq_true rfl, Nat.le_of_ble_eq_true rfl⟩) (z_preS hK hE hW hS [.long x0]) rfl rfl hl.1 rfl (lv_room (Nat.le_of_ble_eq_true rfl)) dX6_headIn_1 ⟨Nat.le_of_ble_eq_true rfl, Nat.le_of_ble_eq_true rfl⟩) (fun H locs hW hS => ?_)
  refine lv_lstore_n (lv' := [(3, .long q1), (0, .long x0), (2, .int x2)]) hx hb dX6_headIn_4 rfl hl (by decide) rfl (fun ls hl => ?_)
  refine lv_bipush (v := 6) hx hb dX6_headIn_5 (by decide) ?_
  refine lv_istore (lv' := [(5, .int (6 : Int32)), (3, .long q1), (0, .long x0), (2, .int x2)]) hx hb dX6_headIn_7 hl (by decide) rfl (fun ls hl => ?_)
  exact t_X6_headIn_9 C0 N  N h hW hS (lv_sub hl [3, 1, 0] rfl)
def f_X6_headIn (N : Nat) (a0 : Int64) (a2 : Int32) : Option (Int32) := f_X6_headIn_0 N a0 a2
set_option maxRecDepth 100000 in
set_option maxHeartbeats 4000000 in
theorem m_X6_headIn (l : Launch) {D : va_G} {cy : Nat → ClassId} {ad : Nat → Nat} {L : List Nat} {K len : Nat → Nat} (hL : zSh ad L K) (N : Nat) {a0 : Int64} {a2 : Int32} {M : ZM} {r : Int32} (h : f_X6_headIn N a0 a2 = some r) (sz : Nat) : Met l yX6_headIn wsX6_headIn ({ frames := 2, cells := 0, slots := 0, locals := 46 } : Room) (zPre D cy ad L K len sz [.long a0, .int a2] M) (zQi D cy ad L K len r M sz) 0 0 (zA ad L sz) :=
  z_entry (Qf := fun sz => zQi D cy ad L K len r M sz) (av := [.long a0, .int a2]) (by decide) rfl rfl hL (Nat.le_of_ble_eq_true rfl) (fun p e s m args below meth c C0 H locs ls hW hS hl => t_X6_headIn_0 C0 N h hW hS (lv_sub hl [0, 1] rfl))
def f_X3_join_16 (N : Nat) : Option (Int64) :=
some (-9223372036854775808 : Int64)
set_option maxRecDepth 100000 in
set_option maxHeartbeats 4000000 in
theorem t_X3_join_16 {p : Program} {l : Launch} {e : Env} {s : State} {m : MethodId} {args : Array Value} {below : List Frame} {meth : Method} {c : Code} {D : va_G} {cy : Nat → ClassId} {ad : Nat → Nat} {L : List Nat} {K len : Nat → Nat} (C0 : zCx p s m c meth args cX3_join 4 wsX3_join RX3 (some .long) D cy ad L K) (N : Nat) {M : ZM} {r : Int64} (h : f_X3_join_16 N  = some r) {H : Heap} {locs : List Loc} {ls : Array Slot} (hW : zWd D cy ad L K len M H) (hS : va_S (zA ad L s.heap.size) s.heap H locs) (hl : lv_has ls 4 []) : W p l e (headSpec wsX3_join ({ frames := 0, cells := 0, slots := 0, locals := 0 } : Room)).room s m args below meth c H locs 0 0 (MQ below (zQl D cy ad L K len r M s.heap.size) args s 0 0 (zA ad L s.heap.size)) (F0 m 16 ls []) := by
  obtain ⟨hx, hb, hr, hml, hown, hts, hlocks, hK, hL, hE⟩ := id C0
  unfold f_X3_join_16 at h
  refine lv_ldc2 hx hb hown (hts (.constantLong RX3 45 (-9223372036854775808)) (by decide +kernel)) dX3_join_16 ?_
  refine lv_goto (tgt := 25) hx hb dX3_join_19 (by decide) ?_
  exact z_lret hx hb hr hlocks hW hS (Option.some.inj h) rfl dX3_join_25
def f_X3_join_0 (N : Nat) (x0 : Int64) (x2 : Int64) : Option (Int64) :=
(if x0 = (-9223372036854775808 : Int64) then
f_X3_join_16 N  
else
(if x2 = (-9223372036854775808 : Int64) then
f_X3_join_16 N  
else
some (x0 + x2)))
set_option maxRecDepth 100000 in
set_option maxHeartbeats 4000000 in
theorem t_X3_join_0 {p : Program} {l : Launch} {e : Env} {s : State} {m : MethodId} {args : Array Value} {below : List Frame} {meth : Method} {c : Code} {D : va_G} {cy : Nat → ClassId} {ad : Nat → Nat} {L : List Nat} {K len : Nat → Nat} (C0 : zCx p s m c meth args cX3_join 4 wsX3_join RX3 (some .long) D cy ad L K) (N : Nat) {x0 : Int64} {x2 : Int64} {M : ZM} {r : Int64} (h : f_X3_join_0 N x0 x2 = some r) {H : Heap} {locs : List Loc} {ls : Array Slot} (hW : zWd D cy ad L K len M H) (hS : va_S (zA ad L s.heap.size) s.heap H locs) (hl : lv_has ls 4 [(0, .long x0), (2, .long x2)]) : W p l e (headSpec wsX3_join ({ frames := 0, cells := 0, slots := 0, locals := 0 } : Room)).room s m args below meth c H locs 0 0 (MQ below (zQl D cy ad L K len r M s.heap.size) args s 0 0 (zA ad L s.heap.size)) (F0 m 0 ls []) := by
  obtain ⟨hx, hb, hr, hml, hown, hts, hlocks, hK, hL, hE⟩ := id C0
  unfold f_X3_join_0 at h
  refine lv_lload_n hx hb dX3_join_0 rfl (lv_at hl 0 rfl) ?_
  refine lv_ldc2 hx hb hown (hts (.constantLong RX3 45 (-9223372036854775808)) (by decide +kernel)) dX3_join_1 ?_
  refine z_lc_eq (tgt := 16) hx hb dX3_join_4 dX3_join_5 (by decide) (fun c1 => ?_) (fun c1 => ?_)
  · have h := zip c1 h
    exact t_X3_join_16 C0 N  h hW hS (lv_sub hl [] rfl)
  · have h := zin c1 h
    refine lv_lload_n hx hb dX3_join_8 rfl (lv_at hl 1 rfl) ?_
    refine lv_ldc2 hx hb hown (hts (.constantLong RX3 45 (-9223372036854775808)) (by decide +kernel)) dX3_join_9 ?_
    refine z_lc_ne (tgt := 22) hx hb dX3_join_12 dX3_join_13 (by decide) (fun c2 => ?_) (fun c2 => ?_)
    · have h := zin c2 h
      refine lv_lload_n hx hb dX3_join_22 rfl (lv_at hl 0 rfl) ?_
      refine lv_lload_n hx hb dX3_join_23 rfl (lv_at hl 1 rfl) ?_
      refine lv_ladd hx hb dX3_join_24 ?_
      exact z_lret hx hb hr hlocks hW hS (Option.some.inj h) rfl dX3_join_25
    · have h := zip c2 h
      exact t_X3_join_16 C0 N  h hW hS (lv_sub hl [] rfl)
def f_X3_join (N : Nat) (a0 : Int64) (a2 : Int64) : Option (Int64) := f_X3_join_0 N a0 a2
set_option maxRecDepth 100000 in
set_option maxHeartbeats 4000000 in
theorem m_X3_join (l : Launch) {D : va_G} {cy : Nat → ClassId} {ad : Nat → Nat} {L : List Nat} {K len : Nat → Nat} (hL : zSh ad L K) (N : Nat) {a0 : Int64} {a2 : Int64} {M : ZM} {r : Int64} (h : f_X3_join N a0 a2 = some r) (sz : Nat) : Met l yX3_join wsX3_join ({ frames := 0, cells := 0, slots := 0, locals := 0 } : Room) (zPre D cy ad L K len sz [.long a0, .long a2] M) (zQl D cy ad L K len r M sz) 0 0 (zA ad L sz) :=
  z_entry (Qf := fun sz => zQl D cy ad L K len r M sz) (av := [.long a0, .long a2]) (by decide) rfl rfl hL (Nat.le_of_ble_eq_true rfl) (fun p e s m args below meth c C0 H locs ls hW hS hl => t_X3_join_0 C0 N h hW hS (lv_sub hl [0, 1] rfl))
def f_X5_isFeature_0 (N : Nat) (x0 : Int32) : Option (Int32) :=
(if x0 < 0 then
some (0 : Int32)
else
(if (28 : Int32) ≤ x0 then
some (0 : Int32)
else
some (1 : Int32)))
set_option maxRecDepth 100000 in
set_option maxHeartbeats 4000000 in
theorem t_X5_isFeature_0 {p : Program} {l : Launch} {e : Env} {s : State} {m : MethodId} {args : Array Value} {below : List Frame} {meth : Method} {c : Code} {D : va_G} {cy : Nat → ClassId} {ad : Nat → Nat} {L : List Nat} {K len : Nat → Nat} (C0 : zCx p s m c meth args cX5_isFeature 1 wsX5_isFeature RX5 (some .boolean) D cy ad L K) (N : Nat) {x0 : Int32} {M : ZM} {r : Int32} (h : f_X5_isFeature_0 N x0 = some r) {H : Heap} {locs : List Loc} {ls : Array Slot} (hW : zWd D cy ad L K len M H) (hS : va_S (zA ad L s.heap.size) s.heap H locs) (hl : lv_has ls 1 [(0, .int x0)]) : W p l e (headSpec wsX5_isFeature ({ frames := 0, cells := 0, slots := 0, locals := 0 } : Room)).room s m args below meth c H locs 0 0 (MQ below (zQi D cy ad L K len r M s.heap.size) args s 0 0 (zA ad L s.heap.size)) (F0 m 0 ls []) := by
  obtain ⟨hx, hb, hr, hml, hown, hts, hlocks, hK, hL, hE⟩ := id C0
  unfold f_X5_isFeature_0 at h
  refine lv_iload_n hx hb dX5_isFeature_0 rfl (lv_at hl 0 rfl) ?_
  refine lv_if_lt (tgt := 14) hx hb dX5_isFeature_1 (by decide) (fun c1 => ?_) (fun c1 => ?_)
  · have h := zip c1 h
    refine lv_iconst (v := 0) hx hb dX5_isFeature_14 (by decide) ?_
    exact z_zret hx hb hr hlocks hW hS (by decide) (Option.some.inj h) rfl dX5_isFeature_15
  · have h := zin c1 h
    refine lv_iload_n hx hb dX5_isFeature_4 rfl (lv_at hl 0 rfl) ?_
    refine lv_bipush (v := 28) hx hb dX5_isFeature_5 (by decide) ?_
    refine lv_icmp_ge (tgt := 14) hx hb dX5_isFeature_7 (by decide) (fun c2 => ?_) (fun c2 => ?_)
    · have h := zip c2 h
      refine lv_iconst (v := 0) hx hb dX5_isFeature_14 (by decide) ?_
      exact z_zret hx hb hr hlocks hW hS (by decide) (Option.some.inj h) rfl dX5_isFeature_15
    · have h := zin c2 h
      refine lv_iconst (v := 1) hx hb dX5_isFeature_10 (by decide) ?_
      refine lv_goto (tgt := 15) hx hb dX5_isFeature_11 (by decide) ?_
      exact z_zret hx hb hr hlocks hW hS (by decide) (Option.some.inj h) rfl dX5_isFeature_15
def f_X5_isFeature (N : Nat) (a0 : Int32) : Option (Int32) := f_X5_isFeature_0 N a0
set_option maxRecDepth 100000 in
set_option maxHeartbeats 4000000 in
theorem m_X5_isFeature (l : Launch) {D : va_G} {cy : Nat → ClassId} {ad : Nat → Nat} {L : List Nat} {K len : Nat → Nat} (hL : zSh ad L K) (N : Nat) {a0 : Int32} {M : ZM} {r : Int32} (h : f_X5_isFeature N a0 = some r) (sz : Nat) : Met l yX5_isFeature wsX5_isFeature ({ frames := 0, cells := 0, slots := 0, locals := 0 } : Room) (zPre D cy ad L K len sz [.int a0] M) (zQi D cy ad L K len r M sz) 0 0 (zA ad L sz) :=
  z_entry (Qf := fun sz => zQi D cy ad L K len r M sz) (av := [.int a0]) (by decide) rfl rfl hL (Nat.le_of_ble_eq_true rfl) (fun p e s m args below meth c C0 H locs ls hW hS hl => t_X5_isFeature_0 C0 N h hW hS (lv_sub hl [0] rfl))
def f_X5_isRow_0 (N : Nat) (x0 : Int32) : Option (Int32) :=
(if x0 < 0 then
some (0 : Int32)
else
(if (20 : Int32) ≤ x0 then
some (0 : Int32)
else
some (1 : Int32)))
set_option maxRecDepth 100000 in
set_option maxHeartbeats 4000000 in
theorem t_X5_isRow_0 {p : Program} {l : Launch} {e : Env} {s : State} {m : MethodId} {args : Array Value} {below : List Frame} {meth : Method} {c : Code} {D : va_G} {cy : Nat → ClassId} {ad : Nat → Nat} {L : List Nat} {K len : Nat → Nat} (C0 : zCx p s m c meth args cX5_isRow 1 wsX5_isRow RX5 (some .boolean) D cy ad L K) (N : Nat) {x0 : Int32} {M : ZM} {r : Int32} (h : f_X5_isRow_0 N x0 = some r) {H : Heap} {locs : List Loc} {ls : Array Slot} (hW : zWd D cy ad L K len M H) (hS : va_S (zA ad L s.heap.size) s.heap H locs) (hl : lv_has ls 1 [(0, .int x0)]) : W p l e (headSpec wsX5_isRow ({ frames := 0, cells := 0, slots := 0, locals := 0 } : Room)).room s m args below meth c H locs 0 0 (MQ below (zQi D cy ad L K len r M s.heap.size) args s 0 0 (zA ad L s.heap.size)) (F0 m 0 ls []) := by
  obtain ⟨hx, hb, hr, hml, hown, hts, hlocks, hK, hL, hE⟩ := id C0
  unfold f_X5_isRow_0 at h
  refine lv_iload_n hx hb dX5_isRow_0 rfl (lv_at hl 0 rfl) ?_
  refine lv_if_lt (tgt := 14) hx hb dX5_isRow_1 (by decide) (fun c1 => ?_) (fun c1 => ?_)
  · have h := zip c1 h
    refine lv_iconst (v := 0) hx hb dX5_isRow_14 (by decide) ?_
    exact z_zret hx hb hr hlocks hW hS (by decide) (Option.some.inj h) rfl dX5_isRow_15
  · have h := zin c1 h
    refine lv_iload_n hx hb dX5_isRow_4 rfl (lv_at hl 0 rfl) ?_
    refine lv_bipush (v := 20) hx hb dX5_isRow_5 (by decide) ?_
    refine lv_icmp_ge (tgt := 14) hx hb dX5_isRow_7 (by decide) (fun c2 => ?_) (fun c2 => ?_)
    · have h := zip c2 h
      refine lv_iconst (v := 0) hx hb dX5_isRow_14 (by decide) ?_
      exact z_zret hx hb hr hlocks hW hS (by decide) (Option.some.inj h) rfl dX5_isRow_15
    · have h := zin c2 h
      refine lv_iconst (v := 1) hx hb dX5_isRow_10 (by decide) ?_
      refine lv_goto (tgt := 15) hx hb dX5_isRow_11 (by decide) ?_
      exact z_zret hx hb hr hlocks hW hS (by decide) (Option.some.inj h) rfl dX5_isRow_15
def f_X5_isRow (N : Nat) (a0 : Int32) : Option (Int32) := f_X5_isRow_0 N a0
set_option maxRecDepth 100000 in
set_option maxHeartbeats 4000000 in
theorem m_X5_isRow (l : Launch) {D : va_G} {cy : Nat → ClassId} {ad : Nat → Nat} {L : List Nat} {K len : Nat → Nat} (hL : zSh ad L K) (N : Nat) {a0 : Int32} {M : ZM} {r : Int32} (h : f_X5_isRow N a0 = some r) (sz : Nat) : Met l yX5_isRow wsX5_isRow ({ frames := 0, cells := 0, slots := 0, locals := 0 } : Room) (zPre D cy ad L K len sz [.int a0] M) (zQi D cy ad L K len r M sz) 0 0 (zA ad L sz) :=
  z_entry (Qf := fun sz => zQi D cy ad L K len r M sz) (av := [.int a0]) (by decide) rfl rfl hL (Nat.le_of_ble_eq_true rfl) (fun p e s m args below meth c C0 H locs ls hW hS hl => t_X5_isRow_0 C0 N h hW hS (lv_sub hl [0] rfl))
def f_X2_size_0 (N : Nat) (K len : Nat → Nat) (x0 : Nat) (M : ZM) : Option (Int32) :=
zg (K x0 == 3) (
some (zI M x0 3))
set_option maxRecDepth 100000 in
set_option maxHeartbeats 4000000 in
theorem t_X2_size_0 {p : Program} {l : Launch} {e : Env} {s : State} {m : MethodId} {args : Array Value} {below : List Frame} {meth : Method} {c : Code} {D : va_G} {cy : Nat → ClassId} {ad : Nat → Nat} {L : List Nat} {K len : Nat → Nat} (C0 : zCx p s m c meth args cX2_size 1 wsX2_size RX2 (some .int) D cy ad L K) (N : Nat) {x0 : Nat} {M : ZM} {r : Int32} (h : f_X2_size_0 N K len x0 M = some r) {H : Heap} {locs : List Loc} {ls : Array Slot} (hW : zWd D cy ad L K len M H) (hS : va_S (zA ad L s.heap.size) s.heap H locs) (hl : lv_has ls 1 [(0, .ref (ad x0))]) : W p l e (headSpec wsX2_size ({ frames := 0, cells := 0, slots := 0, locals := 0 } : Room)).room s m args below meth c H locs 0 0 (MQ below (zQi D cy ad L K len r M s.heap.size) args s 0 0 (zA ad L s.heap.size)) (F0 m 0 ls []) := by
  obtain ⟨hx, hb, hr, hml, hown, hts, hlocks, hK, hL, hE⟩ := id C0
  have hinX2 : ∀ w ∈ wsX20, w ∈ wsX2_size := by decide +kernel
  unfold f_X2_size_0 at h
  refine lv_aload_n hx hb dX2_size_0 rfl (lv_at hl 0 rfl) ?_
  obtain ⟨g1, h⟩ := zg_some h
  refine z_get (own := RX2) (C := RX2) (T := TX2) (N := 4) (ci := 2) hx hb hts hinX2 hown hK hL hW 3 (zK_of g1) rfl (by decide) (by decide) rfl (hts (.fieldLink RX2 23 "ArcLight$Sentence" "last" "I") (by decide +kernel)) (v := .int (zI M x0 3)) rfl dX2_size_1 ?_
  exact z_iret hx hb hr hlocks hW hS (Option.some.inj h) rfl dX2_size_4
def f_X2_size (N : Nat) (K len : Nat → Nat) (a0 : Nat) (M : ZM) : Option (Int32) := f_X2_size_0 N K len a0 M
set_option maxRecDepth 100000 in
set_option maxHeartbeats 4000000 in
theorem m_X2_size (l : Launch) {D : va_G} {cy : Nat → ClassId} {ad : Nat → Nat} {L : List Nat} {K len : Nat → Nat} (hL : zSh ad L K) (N : Nat) {a0 : Nat} {M : ZM} {r : Int32} (h : f_X2_size N K len a0 M = some r) (sz : Nat) : Met l yX2_size wsX2_size ({ frames := 0, cells := 0, slots := 0, locals := 0 } : Room) (zPre D cy ad L K len sz [.ref (ad a0)] M) (zQi D cy ad L K len r M sz) 0 0 (zA ad L sz) :=
  z_entry (Qf := fun sz => zQi D cy ad L K len r M sz) (av := [.ref (ad a0)]) (by decide) rfl rfl hL (Nat.le_of_ble_eq_true rfl) (fun p e s m args below meth c C0 H locs ls hW hS hl => t_X2_size_0 C0 N h hW hS (lv_sub hl [0] rfl))
def f_X2_append_0 (N : Nat) (K len : Nat → Nat) (x0 : Nat) (x1 : Int32) (M : ZM) : Option (ZM) :=
zg (K x0 == 3) (
(if (6 : Int32) ≤ (zI M x0 3) then
some M
else
zl (zsI M x0 3 ((zI M x0 3) + (1 : Int32))) fun M3 => (
(zR M3 x0 0).bind fun b5 => (
zg (zok K len b5 11 (zI M3 x0 3)) (
zl (zsI M3 b5 (zI M3 x0 3).toNatClampNeg x1) fun M8 => (
some M8))))))
set_option maxRecDepth 100000 in
set_option maxHeartbeats 4000000 in
theorem t_X2_append_0 {p : Program} {l : Launch} {e : Env} {s : State} {m : MethodId} {args : Array Value} {below : List Frame} {meth : Method} {c : Code} {D : va_G} {cy : Nat → ClassId} {ad : Nat → Nat} {L : List Nat} {K len : Nat → Nat} (C0 : zCx p s m c meth args cX2_append 2 wsX2_append RX2 none D cy ad L K) (N : Nat) {x0 : Nat} {x1 : Int32} {M : ZM} {Mr : ZM} (h : f_X2_append_0 N K len x0 x1 M = some Mr) {H : Heap} {locs : List Loc} {ls : Array Slot} (hW : zWd D cy ad L K len M H) (hS : va_S (zA ad L s.heap.size) s.heap H locs) (hl : lv_has ls 2 [(0, .ref (ad x0)), (1, .int x1)]) : W p l e (headSpec wsX2_append ({ frames := 0, cells := 0, slots := 0, locals := 0 } : Room)).room s m args below meth c H locs 0 0 (MQ below (zQv D cy ad L K len Mr s.heap.size) args s 0 0 (zA ad L s.heap.size)) (F0 m 0 ls []) := by
  obtain ⟨hx, hb, hr, hml, hown, hts, hlocks, hK, hL, hE⟩ := id C0
  have hinX2 : ∀ w ∈ wsX20, w ∈ wsX2_append := by decide +kernel
  unfold f_X2_append_0 at h
  refine lv_aload_n hx hb dX2_append_0 rfl (lv_at hl 0 rfl) ?_
  obtain ⟨g1, h⟩ := zg_some h
  refine z_get (own := RX2) (C := RX2) (T := TX2) (N := 4) (ci := 2) hx hb hts hinX2 hown hK hL hW 3 (zK_of g1) rfl (by decide) (by decide) rfl (hts (.fieldLink RX2 23 "ArcLight$Sentence" "last" "I") (by decide +kernel)) (v := .int (zI M x0 3)) rfl dX2_append_1 ?_
  refine lv_bipush (v := 6) hx hb dX2_append_4 (by decide) ?_
  refine lv_icmp_ge (tgt := 29) hx hb dX2_append_6 (by decide) (fun c2 => ?_) (fun c2 => ?_)
  · have h := zip c2 h
    exact z_vret hx hb hr hlocks hW hS (Option.some.inj h) dX2_append_29
  · have h := zin c2 h
    refine lv_aload_n hx hb dX2_append_9 rfl (lv_at hl 0 rfl) ?_
    refine lv_dup hx hb dX2_append_10 rfl ?_
    refine z_get (own := RX2) (C := RX2) (T := TX2) (N := 4) (ci := 2) hx hb hts hinX2 hown hK hL hW 3 (zK_of g1) rfl (by decide) (by decide) rfl (hts (.fieldLink RX2 23 "ArcLight$Sentence" "last" "I") (by decide +kernel)) (v := .int (zI M x0 3)) rfl dX2_append_11 ?_
    refine lv_iconst (v := 1) hx hb dX2_append_14 (by decide) ?_
    refine lv_iadd hx hb dX2_append_15 ?_
    refine z_put (own := RX2) (C := RX2) (T := TX2) (N := 4) (ci := 2) (v := .int ((zI M x0 3) + (1 : Int32))) (M' := zsI M x0 3 ((zI M x0 3) + (1 : Int32))) hx hb hts hinX2 tyX2 tyX2_ok nmX2 hown hK hL hW hS 3 (zK_of g1) rfl (by decide) (by decide) rfl (hts (.fieldLink RX2 23 "ArcLight$Sentence" "last" "I") (by decide +kernel)) rfl (ty := .int) (by decide +kernel) rfl rfl (Nat.le_of_ble_eq_true rfl) dX2_append_16 (zM_I (zK_of g1) (by decide) rfl) (fun H locs hW hS => ?_)
    obtain ⟨M3, eM4, h⟩ := zl_some h
    rw [← eM4] at hW
    refine lv_aload_n hx hb dX2_append_19 rfl (lv_at hl 0 rfl) ?_
    obtain ⟨b5, e6, h⟩ := zb_some h
    refine z_get (own := RX2) (C := RX2) (T := TX2) (N := 4) (ci := 2) hx hb hts hinX2 hown hK hL hW 0 (zK_of g1) rfl (by decide) (by decide) rfl (hts (.fieldLink RX2 9 "ArcLight$Sentence" "kinds" "[I") (by decide +kernel)) (v := .ref (ad b5)) (zhvR e6 rfl) dX2_append_20 ?_
    refine lv_aload_n hx hb dX2_append_23 rfl (lv_at hl 0 rfl) ?_
    refine z_get (own := RX2) (C := RX2) (T := TX2) (N := 4) (ci := 2) hx hb hts hinX2 hown hK hL hW 3 (zK_of g1) rfl (by decide) (by decide) rfl (hts (.fieldLink RX2 23 "ArcLight$Sentence" "last" "I") (by decide +kernel)) (v := .int (zI M3 x0 3)) rfl dX2_append_24 ?_
    refine lv_iload_n hx hb dX2_append_27 rfl (lv_at hl 1 rfl) ?_
    obtain ⟨g7, h⟩ := zg_some h
    refine z_iast hx hb hK hL hW hS g7 dX2_append_28 (fun H locs hW hS => ?_)
    obtain ⟨M8, eM9, h⟩ := zl_some h
    rw [← eM9] at hW
    exact z_vret hx hb hr hlocks hW hS (Option.some.inj h) dX2_append_29
def f_X2_append (N : Nat) (K len : Nat → Nat) (a0 : Nat) (a1 : Int32) (M : ZM) : Option (ZM) := f_X2_append_0 N K len a0 a1 M
set_option maxRecDepth 100000 in
set_option maxHeartbeats 4000000 in
theorem m_X2_append (l : Launch) {D : va_G} {cy : Nat → ClassId} {ad : Nat → Nat} {L : List Nat} {K len : Nat → Nat} (hL : zSh ad L K) (N : Nat) {a0 : Nat} {a1 : Int32} {M : ZM} {Mr : ZM} (h : f_X2_append N K len a0 a1 M = some Mr) (sz : Nat) : Met l yX2_append wsX2_append ({ frames := 0, cells := 0, slots := 0, locals := 0 } : Room) (zPre D cy ad L K len sz [.ref (ad a0), .int a1] M) (zQv D cy ad L K len Mr sz) 0 0 (zA ad L sz) :=
  z_entry (Qf := fun sz => zQv D cy ad L K len Mr sz) (av := [.ref (ad a0), .int a1]) (by decide) rfl rfl hL (Nat.le_of_ble_eq_true rfl) (fun p e s m args below meth c C0 H locs ls hW hS hl => t_X2_append_0 C0 N h hW hS (lv_sub hl [0, 1] rfl))
def f_X2_kindAt_0 (N : Nat) (K len : Nat → Nat) (x0 : Nat) (x1 : Int32) (M : ZM) : Option (Int32) :=
(f_X6_isPlace N x1).bind fun q1 => (
(if q1 = 0 then
some (-1 : Int32)
else
zg (K x0 == 3) (
(zR M x0 0).bind fun b5 => (
zg (zok K len b5 11 x1) (
some (zI M b5 x1.toNatClampNeg))))))
set_option maxRecDepth 100000 in
set_option maxHeartbeats 4000000 in
theorem t_X2_kindAt_0 {p : Program} {l : Launch} {e : Env} {s : State} {m : MethodId} {args : Array Value} {below : List Frame} {meth : Method} {c : Code} {D : va_G} {cy : Nat → ClassId} {ad : Nat → Nat} {L : List Nat} {K len : Nat → Nat} (C0 : zCx p s m c meth args cX2_kindAt 2 wsX2_kindAt RX2 (some .int) D cy ad L K) (N : Nat) {x0 : Nat} {x1 : Int32} {M : ZM} {r : Int32} (h : f_X2_kindAt_0 N K len x0 x1 M = some r) {H : Heap} {locs : List Loc} {ls : Array Slot} (hW : zWd D cy ad L K len M H) (hS : va_S (zA ad L s.heap.size) s.heap H locs) (hl : lv_has ls 2 [(0, .ref (ad x0)), (1, .int x1)]) : W p l e (headSpec wsX2_kindAt ({ frames := 1, cells := 0, slots := 0, locals := 20 } : Room)).room s m args below meth c H locs 0 0 (MQ below (zQi D cy ad L K len r M s.heap.size) args s 0 0 (zA ad L s.heap.size)) (F0 m 0 ls []) := by
  obtain ⟨hx, hb, hr, hml, hown, hts, hlocks, hK, hL, hE⟩ := id C0
  have hinX2 : ∀ w ∈ wsX20, w ∈ wsX2_kindAt := by decide +kernel
  unfold f_X2_kindAt_0 at h
  refine lv_iload_n hx hb dX2_kindAt_0 rfl (lv_at hl 1 rfl) ?_
  obtain ⟨q1, e2, h⟩ := zb_some h
  refine z_calli hS (va_runSN (As := [.int x1]) (rest := []) ⟨hx, hb, hml, hown, hts⟩ (m_X6_isPlace l (M := M) hL N e2 H.size) ⟨va_cnB (host := "ArcLight") 1 hts gX2_kindAt_X6_isPlace_n33 rfl rfl rfl (hE.1 (.methodLinkNest RX2 33 yX6_isPlace "ArcLight") (by decide +kernel)) (hts (.initialized RX6) (by decide +kernel)) (by decide +kernel) ⟨Nat.le_of_ble_eq_true rfl, Nat.le_of_ble_eq_true rfl⟩, hts (.static yX6_isPlace) (by decide +kernel), trivial⟩ (z_preS hK hE hW hS [.int x1]) rfl rfl hl.1 rfl (lv_room (Nat.le_of_ble_eq_true rfl)) dX2_kindAt_1 ⟨Nat.le_of_ble_eq_true rfl, Nat.le_of_ble_eq_true rfl⟩) (fun H locs hW hS => ?_)
  refine lv_if_eq (tgt := 16) hx hb dX2_kindAt_4 (by decide) (fun c3 => ?_) (fun c3 => ?_)
  · have h := zip c3 h
    refine lv_iconst (v := -1) hx hb dX2_kindAt_16 (by decide) ?_
    exact z_iret hx hb hr hlocks hW hS (Option.some.inj h) rfl dX2_kindAt_17
  · have h := zin c3 h
    refine lv_aload_n hx hb dX2_kindAt_7 rfl (lv_at hl 0 rfl) ?_
    obtain ⟨g4, h⟩ := zg_some h
    obtain ⟨b5, e6, h⟩ := zb_some h
    refine z_get (own := RX2) (C := RX2) (T := TX2) (N := 4) (ci := 2) hx hb hts hinX2 hown hK hL hW 0 (zK_of g4) rfl (by decide) (by decide) rfl (hts (.fieldLink RX2 9 "ArcLight$Sentence" "kinds" "[I") (by decide +kernel)) (v := .ref (ad b5)) (zhvR e6 rfl) dX2_kindAt_8 ?_
    refine lv_iload_n hx hb dX2_kindAt_11 rfl (lv_at hl 1 rfl) ?_
    obtain ⟨g7, h⟩ := zg_some h
    refine z_iald hx hb hK hL hW g7 dX2_kindAt_12 ?_
    refine lv_goto (tgt := 17) hx hb dX2_kindAt_13 (by decide) ?_
    exact z_iret hx hb hr hlocks hW hS (Option.some.inj h) rfl dX2_kindAt_17
def f_X2_kindAt (N : Nat) (K len : Nat → Nat) (a0 : Nat) (a1 : Int32) (M : ZM) : Option (Int32) := f_X2_kindAt_0 N K len a0 a1 M
set_option maxRecDepth 100000 in
set_option maxHeartbeats 4000000 in
theorem m_X2_kindAt (l : Launch) {D : va_G} {cy : Nat → ClassId} {ad : Nat → Nat} {L : List Nat} {K len : Nat → Nat} (hL : zSh ad L K) (N : Nat) {a0 : Nat} {a1 : Int32} {M : ZM} {r : Int32} (h : f_X2_kindAt N K len a0 a1 M = some r) (sz : Nat) : Met l yX2_kindAt wsX2_kindAt ({ frames := 1, cells := 0, slots := 0, locals := 20 } : Room) (zPre D cy ad L K len sz [.ref (ad a0), .int a1] M) (zQi D cy ad L K len r M sz) 0 0 (zA ad L sz) :=
  z_entry (Qf := fun sz => zQi D cy ad L K len r M sz) (av := [.ref (ad a0), .int a1]) (by decide) rfl rfl hL (Nat.le_of_ble_eq_true rfl) (fun p e s m args below meth c C0 H locs ls hW hS hl => t_X2_kindAt_0 C0 N h hW hS (lv_sub hl [0, 1] rfl))
def f_X2_byKinds_0 (N : Nat) (K len : Nat → Nat) (x0 : Nat) (x1 : Int32) (x2 : Int32) (M : ZM) : Option (Int32) :=
(f_X2_kindAt N K len x0 x1 M).bind fun q1 => (
zg (K x0 == 3) (
(f_X2_kindAt N K len x0 x2 M).bind fun q4 => (
some (((4 : Int32) * q1) + q4))))
set_option maxRecDepth 100000 in
set_option maxHeartbeats 4000000 in
theorem t_X2_byKinds_0 {p : Program} {l : Launch} {e : Env} {s : State} {m : MethodId} {args : Array Value} {below : List Frame} {meth : Method} {c : Code} {D : va_G} {cy : Nat → ClassId} {ad : Nat → Nat} {L : List Nat} {K len : Nat → Nat} (C0 : zCx p s m c meth args cX2_byKinds 3 wsX2_byKinds RX2 (some .int) D cy ad L K) (N : Nat) {x0 : Nat} {x1 : Int32} {x2 : Int32} {M : ZM} {r : Int32} (h : f_X2_byKinds_0 N K len x0 x1 x2 M = some r) {H : Heap} {locs : List Loc} {ls : Array Slot} (hW : zWd D cy ad L K len M H) (hS : va_S (zA ad L s.heap.size) s.heap H locs) (hl : lv_has ls 3 [(0, .ref (ad x0)), (1, .int x1), (2, .int x2)]) : W p l e (headSpec wsX2_byKinds ({ frames := 2, cells := 0, slots := 0, locals := 41 } : Room)).room s m args below meth c H locs 0 0 (MQ below (zQi D cy ad L K len r M s.heap.size) args s 0 0 (zA ad L s.heap.size)) (F0 m 0 ls []) := by
  obtain ⟨hx, hb, hr, hml, hown, hts, hlocks, hK, hL, hE⟩ := id C0
  unfold f_X2_byKinds_0 at h
  refine lv_iconst (v := 4) hx hb dX2_byKinds_0 (by decide) ?_
  refine lv_aload_n hx hb dX2_byKinds_1 rfl (lv_at hl 0 rfl) ?_
  refine lv_iload_n hx hb dX2_byKinds_2 rfl (lv_at hl 1 rfl) ?_
  obtain ⟨q1, e2, h⟩ := zb_some h
  obtain ⟨g3, h⟩ := zg_some h
  refine z_calli hS (va_runV (As := [.int x1]) (rest := [.int (4 : Int32)]) ⟨hx, hb, hml, hown, hts⟩ (m_X2_kindAt l hL N e2 H.size) (cwV 1 hts gX2_byKinds_X2_kindAt rfl rfl rfl (by decide +kernel) ⟨Nat.le_of_ble_eq_true rfl, Nat.le_of_ble_eq_true rfl⟩) (z_preV (q := (RX2, TX2, 4)) hK hL hE hW hS (zK_of g3) (by decide) rfl [.int x1]) rfl rfl hl.1 rfl (lv_room (Nat.le_of_ble_eq_true rfl)) dX2_byKinds_3 ⟨Nat.le_of_ble_eq_true rfl, Nat.le_of_ble_eq_true rfl⟩) (fun H locs hW hS => ?_)
  refine lv_imul hx hb dX2_byKinds_6 ?_
  refine lv_aload_n hx hb dX2_byKinds_7 rfl (lv_at hl 0 rfl) ?_
  refine lv_iload_n hx hb dX2_byKinds_8 rfl (lv_at hl 2 rfl) ?_
  obtain ⟨q4, e5, h⟩ := zb_some h
  refine z_calli hS (va_runV (As := [.int x2]) (rest := [.int ((4 : Int32) * q1)]) ⟨hx, hb, hml, hown, hts⟩ (m_X2_kindAt l hL N e5 H.size) (cwV 1 hts gX2_byKinds_X2_kindAt rfl rfl rfl (by decide +kernel) ⟨Nat.le_of_ble_eq_true rfl, Nat.le_of_ble_eq_true rfl⟩) (z_preV (q := (RX2, TX2, 4)) hK hL hE hW hS (zK_of g3) (by decide) rfl [.int x2]) rfl rfl hl.1 rfl (lv_room (Nat.le_of_ble_eq_true rfl)) dX2_byKinds_9 ⟨Nat.le_of_ble_eq_true rfl, Nat.le_of_ble_eq_true rfl⟩) (fun H locs hW hS => ?_)
  refine lv_iadd hx hb dX2_byKinds_12 ?_
  exact z_iret hx hb hr hlocks hW hS (Option.some.inj h) rfl dX2_byKinds_13
def f_X2_byKinds (N : Nat) (K len : Nat → Nat) (a0 : Nat) (a1 : Int32) (a2 : Int32) (M : ZM) : Option (Int32) := f_X2_byKinds_0 N K len a0 a1 a2 M
set_option maxRecDepth 100000 in
set_option maxHeartbeats 4000000 in
theorem m_X2_byKinds (l : Launch) {D : va_G} {cy : Nat → ClassId} {ad : Nat → Nat} {L : List Nat} {K len : Nat → Nat} (hL : zSh ad L K) (N : Nat) {a0 : Nat} {a1 : Int32} {a2 : Int32} {M : ZM} {r : Int32} (h : f_X2_byKinds N K len a0 a1 a2 M = some r) (sz : Nat) : Met l yX2_byKinds wsX2_byKinds ({ frames := 2, cells := 0, slots := 0, locals := 41 } : Room) (zPre D cy ad L K len sz [.ref (ad a0), .int a1, .int a2] M) (zQi D cy ad L K len r M sz) 0 0 (zA ad L sz) :=
  z_entry (Qf := fun sz => zQi D cy ad L K len r M sz) (av := [.ref (ad a0), .int a1, .int a2]) (by decide) rfl rfl hL (Nat.le_of_ble_eq_true rfl) (fun p e s m args below meth c C0 H locs ls hW hS hl => t_X2_byKinds_0 C0 N h hW hS (lv_sub hl [0, 1, 2] rfl))
def f_X2_markOf_0 (N : Nat) (K len : Nat → Nat) (x0 : Nat) (x1 : Int32) (x2 : Int32) (M : ZM) : Option (Int32) :=
(f_X6_isPlace N x1).bind fun q1 => (
(if q1 = 0 then
some (2 : Int32)
else
(f_X6_isPlace N x2).bind fun q4 => (
(if q4 = 0 then
some (2 : Int32)
else
zg (K x0 == 3) (
(zR M x0 2).bind fun b8 => (
zg (zok K len b8 15 x1) (
(zR M b8 x1.toNatClampNeg).bind fun b11 => (
zg (zok K len b11 11 x2) (
some (zI M b11 x2.toNatClampNeg))))))))))
set_option maxRecDepth 100000 in
set_option maxHeartbeats 4000000 in
theorem t_X2_markOf_0 {p : Program} {l : Launch} {e : Env} {s : State} {m : MethodId} {args : Array Value} {below : List Frame} {meth : Method} {c : Code} {D : va_G} {cy : Nat → ClassId} {ad : Nat → Nat} {L : List Nat} {K len : Nat → Nat} (C0 : zCx p s m c meth args cX2_markOf 3 wsX2_markOf RX2 (some .int) D cy ad L K) (N : Nat) {x0 : Nat} {x1 : Int32} {x2 : Int32} {M : ZM} {r : Int32} (h : f_X2_markOf_0 N K len x0 x1 x2 M = some r) {H : Heap} {locs : List Loc} {ls : Array Slot} (hW : zWd D cy ad L K len M H) (hS : va_S (zA ad L s.heap.size) s.heap H locs) (hl : lv_has ls 3 [(0, .ref (ad x0)), (1, .int x1), (2, .int x2)]) : W p l e (headSpec wsX2_markOf ({ frames := 1, cells := 0, slots := 0, locals := 20 } : Room)).room s m args below meth c H locs 0 0 (MQ below (zQi D cy ad L K len r M s.heap.size) args s 0 0 (zA ad L s.heap.size)) (F0 m 0 ls []) := by
  obtain ⟨hx, hb, hr, hml, hown, hts, hlocks, hK, hL, hE⟩ := id C0
  have hinX2 : ∀ w ∈ wsX20, w ∈ wsX2_markOf := by decide +kernel
  unfold f_X2_markOf_0 at h
  refine lv_iload_n hx hb dX2_markOf_0 rfl (lv_at hl 1 rfl) ?_
  obtain ⟨q1, e2, h⟩ := zb_some h
  refine z_calli hS (va_runSN (As := [.int x1]) (rest := []) ⟨hx, hb, hml, hown, hts⟩ (m_X6_isPlace l (M := M) hL N e2 H.size) ⟨va_cnB (host := "ArcLight") 1 hts gX2_markOf_X6_isPlace_n33 rfl rfl rfl (hE.1 (.methodLinkNest RX2 33 yX6_isPlace "ArcLight") (by decide +kernel)) (hts (.initialized RX6) (by decide +kernel)) (by decide +kernel) ⟨Nat.le_of_ble_eq_true rfl, Nat.le_of_ble_eq_true rfl⟩, hts (.static yX6_isPlace) (by decide +kernel), trivial⟩ (z_preS hK hE hW hS [.int x1]) rfl rfl hl.1 rfl (lv_room (Nat.le_of_ble_eq_true rfl)) dX2_markOf_1 ⟨Nat.le_of_ble_eq_true rfl, Nat.le_of_ble_eq_true rfl⟩) (fun H locs hW hS => ?_)
  refine lv_if_eq (tgt := 25) hx hb dX2_markOf_4 (by decide) (fun c3 => ?_) (fun c3 => ?_)
  · have h := zip c3 h
    refine lv_iconst (v := 2) hx hb dX2_markOf_25 (by decide) ?_
    exact z_iret hx hb hr hlocks hW hS (Option.some.inj h) rfl dX2_markOf_26
  · have h := zin c3 h
    refine lv_iload_n hx hb dX2_markOf_7 rfl (lv_at hl 2 rfl) ?_
    obtain ⟨q4, e5, h⟩ := zb_some h
    refine z_calli hS (va_runSN (As := [.int x2]) (rest := []) ⟨hx, hb, hml, hown, hts⟩ (m_X6_isPlace l (M := M) hL N e5 H.size) ⟨va_cnB (host := "ArcLight") 1 hts gX2_markOf_X6_isPlace_n33 rfl rfl rfl (hE.1 (.methodLinkNest RX2 33 yX6_isPlace "ArcLight") (by decide +kernel)) (hts (.initialized RX6) (by decide +kernel)) (by decide +kernel) ⟨Nat.le_of_ble_eq_true rfl, Nat.le_of_ble_eq_true rfl⟩, hts (.static yX6_isPlace) (by decide +kernel), trivial⟩ (z_preS hK hE hW hS [.int x2]) rfl rfl hl.1 rfl (lv_room (Nat.le_of_ble_eq_true rfl)) dX2_markOf_8 ⟨Nat.le_of_ble_eq_true rfl, Nat.le_of_ble_eq_true rfl⟩) (fun H locs hW hS => ?_)
    refine lv_if_eq (tgt := 25) hx hb dX2_markOf_11 (by decide) (fun c6 => ?_) (fun c6 => ?_)
    · have h := zip c6 h
      refine lv_iconst (v := 2) hx hb dX2_markOf_25 (by decide) ?_
      exact z_iret hx hb hr hlocks hW hS (Option.some.inj h) rfl dX2_markOf_26
    · have h := zin c6 h
      refine lv_aload_n hx hb dX2_markOf_14 rfl (lv_at hl 0 rfl) ?_
      obtain ⟨g7, h⟩ := zg_some h
      obtain ⟨b8, e9, h⟩ := zb_some h
      refine z_get (own := RX2) (C := RX2) (T := TX2) (N := 4) (ci := 2) hx hb hts hinX2 hown hK hL hW 2 (zK_of g7) rfl (by decide) (by decide) rfl (hts (.fieldLink RX2 20 "ArcLight$Sentence" "marks" "[[I") (by decide +kernel)) (v := .ref (ad b8)) (zhvR e9 rfl) dX2_markOf_15 ?_
      refine lv_iload_n hx hb dX2_markOf_18 rfl (lv_at hl 1 rfl) ?_
      obtain ⟨g10, h⟩ := zg_some h
      obtain ⟨b11, e12, h⟩ := zb_some h
      refine z_aaldS hx hb hK hL hW 15 g10 (by decide) e12 dX2_markOf_19 ?_
      refine lv_iload_n hx hb dX2_markOf_20 rfl (lv_at hl 2 rfl) ?_
      obtain ⟨g13, h⟩ := zg_some h
      refine z_iald hx hb hK hL hW g13 dX2_markOf_21 ?_
      refine lv_goto (tgt := 26) hx hb dX2_markOf_22 (by decide) ?_
      exact z_iret hx hb hr hlocks hW hS (Option.some.inj h) rfl dX2_markOf_26
def f_X2_markOf (N : Nat) (K len : Nat → Nat) (a0 : Nat) (a1 : Int32) (a2 : Int32) (M : ZM) : Option (Int32) := f_X2_markOf_0 N K len a0 a1 a2 M
set_option maxRecDepth 100000 in
set_option maxHeartbeats 4000000 in
theorem m_X2_markOf (l : Launch) {D : va_G} {cy : Nat → ClassId} {ad : Nat → Nat} {L : List Nat} {K len : Nat → Nat} (hL : zSh ad L K) (N : Nat) {a0 : Nat} {a1 : Int32} {a2 : Int32} {M : ZM} {r : Int32} (h : f_X2_markOf N K len a0 a1 a2 M = some r) (sz : Nat) : Met l yX2_markOf wsX2_markOf ({ frames := 1, cells := 0, slots := 0, locals := 20 } : Room) (zPre D cy ad L K len sz [.ref (ad a0), .int a1, .int a2] M) (zQi D cy ad L K len r M sz) 0 0 (zA ad L sz) :=
  z_entry (Qf := fun sz => zQi D cy ad L K len r M sz) (av := [.ref (ad a0), .int a1, .int a2]) (by decide) rfl rfl hL (Nat.le_of_ble_eq_true rfl) (fun p e s m args below meth c C0 H locs ls hW hS hl => t_X2_markOf_0 C0 N h hW hS (lv_sub hl [0, 1, 2] rfl))
def f_X2_changeMark_0 (N : Nat) (K len : Nat → Nat) (x0 : Nat) (x1 : Int32) (x2 : Int32) (x3 : Int32) (M : ZM) : Option (Int32 × ZM) :=
(f_X2_markOf N K len x0 x1 x2 M).bind fun q1 => (
zg (K x0 == 3) (
(f_X6_isPlace N x1).bind fun q4 => (
(if q4 = 0 then
some (q1, M)
else
(f_X6_isPlace N x2).bind fun q7 => (
(if q7 = 0 then
some (q1, M)
else
(zR M x0 2).bind fun b10 => (
zg (zok K len b10 15 x1) (
(zR M b10 x1.toNatClampNeg).bind fun b13 => (
zg (zok K len b13 11 x2) (
zl (zsI M b13 x2.toNatClampNeg x3) fun M16 => (
some (q1, M16))))))))))))
set_option maxRecDepth 100000 in
set_option maxHeartbeats 4000000 in
theorem t_X2_changeMark_0 {p : Program} {l : Launch} {e : Env} {s : State} {m : MethodId} {args : Array Value} {below : List Frame} {meth : Method} {c : Code} {D : va_G} {cy : Nat → ClassId} {ad : Nat → Nat} {L : List Nat} {K len : Nat → Nat} (C0 : zCx p s m c meth args cX2_changeMark 5 wsX2_changeMark RX2 (some .int) D cy ad L K) (N : Nat) {x0 : Nat} {x1 : Int32} {x2 : Int32} {x3 : Int32} {M : ZM} {r : Int32} {Mr : ZM} (h : f_X2_changeMark_0 N K len x0 x1 x2 x3 M = some (r, Mr)) {H : Heap} {locs : List Loc} {ls : Array Slot} (hW : zWd D cy ad L K len M H) (hS : va_S (zA ad L s.heap.size) s.heap H locs) (hl : lv_has ls 5 [(0, .ref (ad x0)), (1, .int x1), (2, .int x2), (3, .int x3)]) : W p l e (headSpec wsX2_changeMark ({ frames := 2, cells := 0, slots := 0, locals := 42 } : Room)).room s m args below meth c H locs 0 0 (MQ below (zQi D cy ad L K len r Mr s.heap.size) args s 0 0 (zA ad L s.heap.size)) (F0 m 0 ls []) := by
  obtain ⟨hx, hb, hr, hml, hown, hts, hlocks, hK, hL, hE⟩ := id C0
  have hinX2 : ∀ w ∈ wsX20, w ∈ wsX2_changeMark := by decide +kernel
  unfold f_X2_changeMark_0 at h
  refine lv_aload_n hx hb dX2_changeMark_0 rfl (lv_at hl 0 rfl) ?_
  refine lv_iload_n hx hb dX2_changeMark_1 rfl (lv_at hl 1 rfl) ?_
  refine lv_iload_n hx hb dX2_changeMark_2 rfl (lv_at hl 2 rfl) ?_
  obtain ⟨q1, e2, h⟩ := zb_some h
  obtain ⟨g3, h⟩ := zg_some h
  refine z_calli hS (va_runV (As := [.int x1, .int x2]) (rest := []) ⟨hx, hb, hml, hown, hts⟩ (m_X2_markOf l hL N e2 H.size) (cwV 2 hts gX2_changeMark_X2_markOf rfl rfl rfl (by decide +kernel) ⟨Nat.le_of_ble_eq_true rfl, Nat.le_of_ble_eq_true rfl⟩) (z_preV (q := (RX2, TX2, 4)) hK hL hE hW hS (zK_of g3) (by decide) rfl [.int x1, .int x2]) rfl rfl hl.1 rfl (lv_room (Nat.le_of_ble_eq_true rfl)) dX2_changeMark_3 ⟨Nat.le_of_ble_eq_true rfl, Nat.le_of_ble_eq_true rfl⟩) (fun H locs hW hS => ?_)
  refine lv_istore (lv' := [(4, .int q1), (0, .ref (ad x0)), (1, .int x1), (2, .int x2), (3, .int x3)]) hx hb dX2_changeMark_6 hl (by decide) rfl (fun ls hl => ?_)
  refine lv_iload_n hx hb dX2_changeMark_8 rfl (lv_at hl 2 rfl) ?_
  obtain ⟨q4, e5, h⟩ := zb_some h
  refine z_calli hS (va_runSN (As := [.int x1]) (rest := []) ⟨hx, hb, hml, hown, hts⟩ (m_X6_isPlace l (M := M) hL N e5 H.size) ⟨va_cnB (host := "ArcLight") 1 hts gX2_changeMark_X6_isPlace_n33 rfl rfl rfl (hE.1 (.methodLinkNest RX2 33 yX6_isPlace "ArcLight") (by decide +kernel)) (hts (.initialized RX6) (by decide +kernel)) (by decide +kernel) ⟨Nat.le_of_ble_eq_true rfl, Nat.le_of_ble_eq_true rfl⟩, hts (.static yX6_isPlace) (by decide +kernel), trivial⟩ (z_preS hK hE hW hS [.int x1]) rfl rfl hl.1 rfl (lv_room (Nat.le_of_ble_eq_true rfl)) dX2_changeMark_9 ⟨Nat.le_of_ble_eq_true rfl, Nat.le_of_ble_eq_true rfl⟩) (fun H locs hW hS => ?_)
  refine lv_if_eq (tgt := 31) hx hb dX2_changeMark_12 (by decide) (fun c6 => ?_) (fun c6 => ?_)
  · have h := zip c6 h
    refine lv_iload hx hb dX2_changeMark_31 (lv_at hl 0 rfl) ?_
    exact z_iret hx hb hr hlocks hW hS (congrArg Prod.fst (Option.some.inj h)) (congrArg Prod.snd (Option.some.inj h)) dX2_changeMark_33
  · have h := zin c6 h
    refine lv_iload_n hx hb dX2_changeMark_15 rfl (lv_at hl 3 rfl) ?_
    obtain ⟨q7, e8, h⟩ := zb_some h
    refine z_calli hS (va_runSN (As := [.int x2]) (rest := []) ⟨hx, hb, hml, hown, hts⟩ (m_X6_isPlace l (M := M) hL N e8 H.size) ⟨va_cnB (host := "ArcLight") 1 hts gX2_changeMark_X6_isPlace_n33 rfl rfl rfl (hE.1 (.methodLinkNest RX2 33 yX6_isPlace "ArcLight") (by decide +kernel)) (hts (.initialized RX6) (by decide +kernel)) (by decide +kernel) ⟨Nat.le_of_ble_eq_true rfl, Nat.le_of_ble_eq_true rfl⟩, hts (.static yX6_isPlace) (by decide +kernel), trivial⟩ (z_preS hK hE hW hS [.int x2]) rfl rfl hl.1 rfl (lv_room (Nat.le_of_ble_eq_true rfl)) dX2_changeMark_16 ⟨Nat.le_of_ble_eq_true rfl, Nat.le_of_ble_eq_true rfl⟩) (fun H locs hW hS => ?_)
    refine lv_if_eq (tgt := 31) hx hb dX2_changeMark_19 (by decide) (fun c9 => ?_) (fun c9 => ?_)
    · have h := zip c9 h
      refine lv_iload hx hb dX2_changeMark_31 (lv_at hl 0 rfl) ?_
      exact z_iret hx hb hr hlocks hW hS (congrArg Prod.fst (Option.some.inj h)) (congrArg Prod.snd (Option.some.inj h)) dX2_changeMark_33
    · have h := zin c9 h
      refine lv_aload_n hx hb dX2_changeMark_22 rfl (lv_at hl 1 rfl) ?_
      obtain ⟨b10, e11, h⟩ := zb_some h
      refine z_get (own := RX2) (C := RX2) (T := TX2) (N := 4) (ci := 2) hx hb hts hinX2 hown hK hL hW 2 (zK_of g3) rfl (by decide) (by decide) rfl (hts (.fieldLink RX2 20 "ArcLight$Sentence" "marks" "[[I") (by decide +kernel)) (v := .ref (ad b10)) (zhvR e11 rfl) dX2_changeMark_23 ?_
      refine lv_iload_n hx hb dX2_changeMark_26 rfl (lv_at hl 2 rfl) ?_
      obtain ⟨g12, h⟩ := zg_some h
      obtain ⟨b13, e14, h⟩ := zb_some h
      refine z_aaldS hx hb hK hL hW 15 g12 (by decide) e14 dX2_changeMark_27 ?_
      refine lv_iload_n hx hb dX2_changeMark_28 rfl (lv_at hl 3 rfl) ?_
      refine lv_iload_n hx hb dX2_changeMark_29 rfl (lv_at hl 4 rfl) ?_
      obtain ⟨g15, h⟩ := zg_some h
      refine z_iast hx hb hK hL hW hS g15 dX2_changeMark_30 (fun H locs hW hS => ?_)
      obtain ⟨M16, eM17, h⟩ := zl_some h
      rw [← eM17] at hW
      refine lv_iload hx hb dX2_changeMark_31 (lv_at hl 0 rfl) ?_
      exact z_iret hx hb hr hlocks hW hS (congrArg Prod.fst (Option.some.inj h)) (congrArg Prod.snd (Option.some.inj h)) dX2_changeMark_33
def f_X2_changeMark (N : Nat) (K len : Nat → Nat) (a0 : Nat) (a1 : Int32) (a2 : Int32) (a3 : Int32) (M : ZM) : Option (Int32 × ZM) := f_X2_changeMark_0 N K len a0 a1 a2 a3 M
set_option maxRecDepth 100000 in
set_option maxHeartbeats 4000000 in
theorem m_X2_changeMark (l : Launch) {D : va_G} {cy : Nat → ClassId} {ad : Nat → Nat} {L : List Nat} {K len : Nat → Nat} (hL : zSh ad L K) (N : Nat) {a0 : Nat} {a1 : Int32} {a2 : Int32} {a3 : Int32} {M : ZM} {r : Int32} {Mr : ZM} (h : f_X2_changeMark N K len a0 a1 a2 a3 M = some (r, Mr)) (sz : Nat) : Met l yX2_changeMark wsX2_changeMark ({ frames := 2, cells := 0, slots := 0, locals := 42 } : Room) (zPre D cy ad L K len sz [.ref (ad a0), .int a1, .int a2, .int a3] M) (zQi D cy ad L K len r Mr sz) 0 0 (zA ad L sz) :=
  z_entry (Qf := fun sz => zQi D cy ad L K len r Mr sz) (av := [.ref (ad a0), .int a1, .int a2, .int a3]) (by decide) rfl rfl hL (Nat.le_of_ble_eq_true rfl) (fun p e s m args below meth c C0 H locs ls hW hS hl => t_X2_changeMark_0 C0 N h hW hS (lv_sub hl [0, 1, 2, 3] rfl))
def f_X2_forcedHead_2 (N : Nat) (K len : Nat → Nat) : Nat → Nat → Int32 → Int32 → ZM → Option (Int32)
  | 0, _, _, _, _ => none
  | n + 1, x0, x1, x2, M =>
    zg (K x0 == 3) (
    (if (zI M x0 3) < x2 then
    some (-1 : Int32)
    else
    (f_X2_markOf N K len x0 x2 x1 M).bind fun q3 => (
    (if q3 = (1 : Int32) then
    some x2
    else
    f_X2_forcedHead_2 N K len  n x0 x1 (x2 + 1) M))))
set_option maxRecDepth 100000 in
set_option maxHeartbeats 4000000 in
theorem t_X2_forcedHead_2 {p : Program} {l : Launch} {e : Env} {s : State} {m : MethodId} {args : Array Value} {below : List Frame} {meth : Method} {c : Code} {D : va_G} {cy : Nat → ClassId} {ad : Nat → Nat} {L : List Nat} {K len : Nat → Nat} (C0 : zCx p s m c meth args cX2_forcedHead 3 wsX2_forcedHead RX2 (some .int) D cy ad L K) (N : Nat) {M : ZM} {r : Int32} : ∀ (n : Nat) {x0 : Nat} {x1 : Int32} {x2 : Int32}, f_X2_forcedHead_2 N K len n x0 x1 x2 M = some r → ∀ {H : Heap} {locs : List Loc} {ls : Array Slot}, zWd D cy ad L K len M H → va_S (zA ad L s.heap.size) s.heap H locs → lv_has ls 3 [(0, .ref (ad x0)), (1, .int x1), (2, .int x2)] → W p l e (headSpec wsX2_forcedHead ({ frames := 2, cells := 0, slots := 0, locals := 42 } : Room)).room s m args below meth c H locs 0 0 (MQ below (zQi D cy ad L K len r M s.heap.size) args s 0 0 (zA ad L s.heap.size)) (F0 m 2 ls []) := by
  obtain ⟨hx, hb, hr, hml, hown, hts, hlocks, hK, hL, hE⟩ := id C0
  have hinX2 : ∀ w ∈ wsX20, w ∈ wsX2_forcedHead := by decide +kernel
  intro n
  induction n with
  | zero =>
    intro x0 x1 x2 h
    cases (show (none : Option (Int32)) = some r from h)
  | succ n ih =>
    intro x0 x1 x2 h H locs ls hW hS hl
    rw [f_X2_forcedHead_2] at h
    refine lv_iload_n hx hb dX2_forcedHead_2 rfl (lv_at hl 2 rfl) ?_
    refine lv_aload_n hx hb dX2_forcedHead_3 rfl (lv_at hl 0 rfl) ?_
    obtain ⟨g1, h⟩ := zg_some h
    refine z_get (own := RX2) (C := RX2) (T := TX2) (N := 4) (ci := 2) hx hb hts hinX2 hown hK hL hW 3 (zK_of g1) rfl (by decide) (by decide) rfl (hts (.fieldLink RX2 23 "ArcLight$Sentence" "last" "I") (by decide +kernel)) (v := .int (zI M x0 3)) rfl dX2_forcedHead_4 ?_
    refine lv_icmp_gt (tgt := 28) hx hb dX2_forcedHead_7 (by decide) (fun c2 => ?_) (fun c2 => ?_)
    · have h := zip c2 h
      refine lv_iconst (v := -1) hx hb dX2_forcedHead_28 (by decide) ?_
      exact z_iret hx hb hr hlocks hW hS (Option.some.inj h) rfl dX2_forcedHead_29
    · have h := zin c2 h
      refine lv_aload_n hx hb dX2_forcedHead_10 rfl (lv_at hl 0 rfl) ?_
      refine lv_iload_n hx hb dX2_forcedHead_11 rfl (lv_at hl 2 rfl) ?_
      refine lv_iload_n hx hb dX2_forcedHead_12 rfl (lv_at hl 1 rfl) ?_
      obtain ⟨q3, e4, h⟩ := zb_some h
      refine z_calli hS (va_runV (As := [.int x2, .int x1]) (rest := []) ⟨hx, hb, hml, hown, hts⟩ (m_X2_markOf l hL N e4 H.size) (cwV 2 hts gX2_forcedHead_X2_markOf rfl rfl rfl (by decide +kernel) ⟨Nat.le_of_ble_eq_true rfl, Nat.le_of_ble_eq_true rfl⟩) (z_preV (q := (RX2, TX2, 4)) hK hL hE hW hS (zK_of g1) (by decide) rfl [.int x2, .int x1]) rfl rfl hl.1 rfl (lv_room (Nat.le_of_ble_eq_true rfl)) dX2_forcedHead_13 ⟨Nat.le_of_ble_eq_true rfl, Nat.le_of_ble_eq_true rfl⟩) (fun H locs hW hS => ?_)
      refine lv_iconst (v := 1) hx hb dX2_forcedHead_16 (by decide) ?_
      refine lv_icmp_ne (tgt := 22) hx hb dX2_forcedHead_17 (by decide) (fun c5 => ?_) (fun c5 => ?_)
      · have h := zin c5 h
        refine lv_iinc (k := 2) (v := (x2 + 1)) (lv' := [(2, .int (x2 + 1)), (0, .ref (ad x0)), (1, .int x1)]) hx hb dX2_forcedHead_22 hl rfl (by rw [show Int32.ofInt 1 = (1 : Int32) from by decide]) (by decide) rfl (fun ls hl => ?_)
        refine lv_goto (tgt := 2) hx hb dX2_forcedHead_25 (by decide) ?_
        exact ih h hW hS (lv_sub hl [1, 2, 0] rfl)
      · have h := zip c5 h
        refine lv_iload_n hx hb dX2_forcedHead_20 rfl (lv_at hl 2 rfl) ?_
        exact z_iret hx hb hr hlocks hW hS (Option.some.inj h) rfl dX2_forcedHead_21
def f_X2_forcedHead_0 (N : Nat) (K len : Nat → Nat) (x0 : Nat) (x1 : Int32) (M : ZM) : Option (Int32) :=
f_X2_forcedHead_2 N K len  N x0 x1 (0 : Int32) M
set_option maxRecDepth 100000 in
set_option maxHeartbeats 4000000 in
theorem t_X2_forcedHead_0 {p : Program} {l : Launch} {e : Env} {s : State} {m : MethodId} {args : Array Value} {below : List Frame} {meth : Method} {c : Code} {D : va_G} {cy : Nat → ClassId} {ad : Nat → Nat} {L : List Nat} {K len : Nat → Nat} (C0 : zCx p s m c meth args cX2_forcedHead 3 wsX2_forcedHead RX2 (some .int) D cy ad L K) (N : Nat) {x0 : Nat} {x1 : Int32} {M : ZM} {r : Int32} (h : f_X2_forcedHead_0 N K len x0 x1 M = some r) {H : Heap} {locs : List Loc} {ls : Array Slot} (hW : zWd D cy ad L K len M H) (hS : va_S (zA ad L s.heap.size) s.heap H locs) (hl : lv_has ls 3 [(0, .ref (ad x0)), (1, .int x1)]) : W p l e (headSpec wsX2_forcedHead ({ frames := 2, cells := 0, slots := 0, locals := 42 } : Room)).room s m args below meth c H locs 0 0 (MQ below (zQi D cy ad L K len r M s.heap.size) args s 0 0 (zA ad L s.heap.size)) (F0 m 0 ls []) := by
  obtain ⟨hx, hb, hr, hml, hown, hts, hlocks, hK, hL, hE⟩ := id C0
  unfold f_X2_forcedHead_0 at h
  refine lv_iconst (v := 0) hx hb dX2_forcedHead_0 (by decide) ?_
  refine lv_istore_n (lv' := [(2, .int (0 : Int32)), (0, .ref (ad x0)), (1, .int x1)]) hx hb dX2_forcedHead_1 rfl hl (by decide) rfl (fun ls hl => ?_)
  exact t_X2_forcedHead_2 C0 N  N h hW hS (lv_sub hl [1, 2, 0] rfl)
def f_X2_forcedHead (N : Nat) (K len : Nat → Nat) (a0 : Nat) (a1 : Int32) (M : ZM) : Option (Int32) := f_X2_forcedHead_0 N K len a0 a1 M
set_option maxRecDepth 100000 in
set_option maxHeartbeats 4000000 in
theorem m_X2_forcedHead (l : Launch) {D : va_G} {cy : Nat → ClassId} {ad : Nat → Nat} {L : List Nat} {K len : Nat → Nat} (hL : zSh ad L K) (N : Nat) {a0 : Nat} {a1 : Int32} {M : ZM} {r : Int32} (h : f_X2_forcedHead N K len a0 a1 M = some r) (sz : Nat) : Met l yX2_forcedHead wsX2_forcedHead ({ frames := 2, cells := 0, slots := 0, locals := 42 } : Room) (zPre D cy ad L K len sz [.ref (ad a0), .int a1] M) (zQi D cy ad L K len r M sz) 0 0 (zA ad L sz) :=
  z_entry (Qf := fun sz => zQi D cy ad L K len r M sz) (av := [.ref (ad a0), .int a1]) (by decide) rfl rfl hL (Nat.le_of_ble_eq_true rfl) (fun p e s m args below meth c C0 H locs ls hW hS hl => t_X2_forcedHead_0 C0 N h hW hS (lv_sub hl [0, 1] rfl))
def f_X2_allows_33 (N : Nat) (K len : Nat → Nat) (M : ZM) : Option (Int32) :=
some (1 : Int32)
set_option maxRecDepth 100000 in
set_option maxHeartbeats 4000000 in
theorem t_X2_allows_33 {p : Program} {l : Launch} {e : Env} {s : State} {m : MethodId} {args : Array Value} {below : List Frame} {meth : Method} {c : Code} {D : va_G} {cy : Nat → ClassId} {ad : Nat → Nat} {L : List Nat} {K len : Nat → Nat} (C0 : zCx p s m c meth args cX2_allows 4 wsX2_allows RX2 (some .boolean) D cy ad L K) (N : Nat) {M : ZM} {r : Int32} (h : f_X2_allows_33 N K len M = some r) {H : Heap} {locs : List Loc} {ls : Array Slot} (hW : zWd D cy ad L K len M H) (hS : va_S (zA ad L s.heap.size) s.heap H locs) (hl : lv_has ls 4 []) : W p l e (headSpec wsX2_allows ({ frames := 3, cells := 0, slots := 0, locals := 64 } : Room)).room s m args below meth c H locs 0 0 (MQ below (zQi D cy ad L K len r M s.heap.size) args s 0 0 (zA ad L s.heap.size)) (F0 m 33 ls []) := by
  obtain ⟨hx, hb, hr, hml, hown, hts, hlocks, hK, hL, hE⟩ := id C0
  unfold f_X2_allows_33 at h
  refine lv_iconst (v := 1) hx hb dX2_allows_33 (by decide) ?_
  refine lv_goto (tgt := 38) hx hb dX2_allows_34 (by decide) ?_
  exact z_zret hx hb hr hlocks hW hS (by decide) (Option.some.inj h) rfl dX2_allows_38
def f_X2_allows_0 (N : Nat) (K len : Nat → Nat) (x0 : Nat) (x1 : Int32) (x2 : Int32) (M : ZM) : Option (Int32) :=
(if x1 = x2 then
some (0 : Int32)
else
(f_X2_markOf N K len x0 x1 x2 M).bind fun q2 => (
zg (K x0 == 3) (
(if q2 = (2 : Int32) then
some (0 : Int32)
else
(f_X2_forcedHead N K len x0 x2 M).bind fun q6 => (
(if q6 = (-1 : Int32) then
f_X2_allows_33 N K len  M
else
(if q6 = x1 then
f_X2_allows_33 N K len  M
else
some (0 : Int32))))))))
set_option maxRecDepth 100000 in
set_option maxHeartbeats 4000000 in
theorem t_X2_allows_0 {p : Program} {l : Launch} {e : Env} {s : State} {m : MethodId} {args : Array Value} {below : List Frame} {meth : Method} {c : Code} {D : va_G} {cy : Nat → ClassId} {ad : Nat → Nat} {L : List Nat} {K len : Nat → Nat} (C0 : zCx p s m c meth args cX2_allows 4 wsX2_allows RX2 (some .boolean) D cy ad L K) (N : Nat) {x0 : Nat} {x1 : Int32} {x2 : Int32} {M : ZM} {r : Int32} (h : f_X2_allows_0 N K len x0 x1 x2 M = some r) {H : Heap} {locs : List Loc} {ls : Array Slot} (hW : zWd D cy ad L K len M H) (hS : va_S (zA ad L s.heap.size) s.heap H locs) (hl : lv_has ls 4 [(0, .ref (ad x0)), (1, .int x1), (2, .int x2)]) : W p l e (headSpec wsX2_allows ({ frames := 3, cells := 0, slots := 0, locals := 64 } : Room)).room s m args below meth c H locs 0 0 (MQ below (zQi D cy ad L K len r M s.heap.size) args s 0 0 (zA ad L s.heap.size)) (F0 m 0 ls []) := by
  obtain ⟨hx, hb, hr, hml, hown, hts, hlocks, hK, hL, hE⟩ := id C0
  unfold f_X2_allows_0 at h
  refine lv_iload_n hx hb dX2_allows_0 rfl (lv_at hl 1 rfl) ?_
  refine lv_iload_n hx hb dX2_allows_1 rfl (lv_at hl 2 rfl) ?_
  refine lv_icmp_eq (tgt := 15) hx hb dX2_allows_2 (by decide) (fun c1 => ?_) (fun c1 => ?_)
  · have h := zip c1 h
    refine lv_iconst (v := 0) hx hb dX2_allows_15 (by decide) ?_
    exact z_zret hx hb hr hlocks hW hS (by decide) (Option.some.inj h) rfl dX2_allows_16
  · have h := zin c1 h
    refine lv_aload_n hx hb dX2_allows_5 rfl (lv_at hl 0 rfl) ?_
    refine lv_iload_n hx hb dX2_allows_6 rfl (lv_at hl 1 rfl) ?_
    refine lv_iload_n hx hb dX2_allows_7 rfl (lv_at hl 2 rfl) ?_
    obtain ⟨q2, e3, h⟩ := zb_some h
    obtain ⟨g4, h⟩ := zg_some h
    refine z_calli hS (va_runV (As := [.int x1, .int x2]) (rest := []) ⟨hx, hb, hml, hown, hts⟩ (m_X2_markOf l hL N e3 H.size) (cwV 2 hts gX2_allows_X2_markOf rfl rfl rfl (by decide +kernel) ⟨Nat.le_of_ble_eq_true rfl, Nat.le_of_ble_eq_true rfl⟩) (z_preV (q := (RX2, TX2, 4)) hK hL hE hW hS (zK_of g4) (by decide) rfl [.int x1, .int x2]) rfl rfl hl.1 rfl (lv_room (Nat.le_of_ble_eq_true rfl)) dX2_allows_8 ⟨Nat.le_of_ble_eq_true rfl, Nat.le_of_ble_eq_true rfl⟩) (fun H locs hW hS => ?_)
    refine lv_iconst (v := 2) hx hb dX2_allows_11 (by decide) ?_
    refine lv_icmp_ne (tgt := 17) hx hb dX2_allows_12 (by decide) (fun c5 => ?_) (fun c5 => ?_)
    · have h := zin c5 h
      refine lv_aload_n hx hb dX2_allows_17 rfl (lv_at hl 0 rfl) ?_
      refine lv_iload_n hx hb dX2_allows_18 rfl (lv_at hl 2 rfl) ?_
      obtain ⟨q6, e7, h⟩ := zb_some h
      refine z_calli hS (va_runV (As := [.int x2]) (rest := []) ⟨hx, hb, hml, hown, hts⟩ (m_X2_forcedHead l hL N e7 H.size) (cwV 1 hts gX2_allows_X2_forcedHead rfl rfl rfl (by decide +kernel) ⟨Nat.le_of_ble_eq_true rfl, Nat.le_of_ble_eq_true rfl⟩) (z_preV (q := (RX2, TX2, 4)) hK hL hE hW hS (zK_of g4) (by decide) rfl [.int x2]) rfl rfl hl.1 rfl (lv_room (Nat.le_of_ble_eq_true rfl)) dX2_allows_19 ⟨Nat.le_of_ble_eq_true rfl, Nat.le_of_ble_eq_true rfl⟩) (fun H locs hW hS => ?_)
      refine lv_istore_n (lv' := [(3, .int q6), (0, .ref (ad x0)), (1, .int x1), (2, .int x2)]) hx hb dX2_allows_22 rfl hl (by decide) rfl (fun ls hl => ?_)
      refine lv_iload_n hx hb dX2_allows_23 rfl (lv_at hl 0 rfl) ?_
      refine lv_iconst (v := -1) hx hb dX2_allows_24 (by decide) ?_
      refine lv_icmp_eq (tgt := 33) hx hb dX2_allows_25 (by decide) (fun c8 => ?_) (fun c8 => ?_)
      · have h := zip c8 h
        exact t_X2_allows_33 C0 N  h hW hS (lv_sub hl [] rfl)
      · have h := zin c8 h
        refine lv_iload_n hx hb dX2_allows_28 rfl (lv_at hl 0 rfl) ?_
        refine lv_iload_n hx hb dX2_allows_29 rfl (lv_at hl 2 rfl) ?_
        refine lv_icmp_ne (tgt := 37) hx hb dX2_allows_30 (by decide) (fun c9 => ?_) (fun c9 => ?_)
        · have h := zin c9 h
          refine lv_iconst (v := 0) hx hb dX2_allows_37 (by decide) ?_
          exact z_zret hx hb hr hlocks hW hS (by decide) (Option.some.inj h) rfl dX2_allows_38
        · have h := zip c9 h
          exact t_X2_allows_33 C0 N  h hW hS (lv_sub hl [] rfl)
    · have h := zip c5 h
      refine lv_iconst (v := 0) hx hb dX2_allows_15 (by decide) ?_
      exact z_zret hx hb hr hlocks hW hS (by decide) (Option.some.inj h) rfl dX2_allows_16
def f_X2_allows (N : Nat) (K len : Nat → Nat) (a0 : Nat) (a1 : Int32) (a2 : Int32) (M : ZM) : Option (Int32) := f_X2_allows_0 N K len a0 a1 a2 M
set_option maxRecDepth 100000 in
set_option maxHeartbeats 4000000 in
theorem m_X2_allows (l : Launch) {D : va_G} {cy : Nat → ClassId} {ad : Nat → Nat} {L : List Nat} {K len : Nat → Nat} (hL : zSh ad L K) (N : Nat) {a0 : Nat} {a1 : Int32} {a2 : Int32} {M : ZM} {r : Int32} (h : f_X2_allows N K len a0 a1 a2 M = some r) (sz : Nat) : Met l yX2_allows wsX2_allows ({ frames := 3, cells := 0, slots := 0, locals := 64 } : Room) (zPre D cy ad L K len sz [.ref (ad a0), .int a1, .int a2] M) (zQi D cy ad L K len r M sz) 0 0 (zA ad L sz) :=
  z_entry (Qf := fun sz => zQi D cy ad L K len r M sz) (av := [.ref (ad a0), .int a1, .int a2]) (by decide) rfl rfl hL (Nat.le_of_ble_eq_true rfl) (fun p e s m args below meth c C0 H locs ls hW hS hl => t_X2_allows_0 C0 N h hW hS (lv_sub hl [0, 1, 2] rfl))
def f_X2_rightHead_0 (N : Nat) (K len : Nat → Nat) (x0 : Nat) (x1 : Int32) (M : ZM) : Option (Int32) :=
(f_X6_isPlace N x1).bind fun q1 => (
(if q1 = 0 then
some (-1 : Int32)
else
zg (K x0 == 3) (
(zR M x0 1).bind fun b5 => (
zg (zok K len b5 11 x1) (
some (zI M b5 x1.toNatClampNeg))))))
set_option maxRecDepth 100000 in
set_option maxHeartbeats 4000000 in
theorem t_X2_rightHead_0 {p : Program} {l : Launch} {e : Env} {s : State} {m : MethodId} {args : Array Value} {below : List Frame} {meth : Method} {c : Code} {D : va_G} {cy : Nat → ClassId} {ad : Nat → Nat} {L : List Nat} {K len : Nat → Nat} (C0 : zCx p s m c meth args cX2_rightHead 2 wsX2_rightHead RX2 (some .int) D cy ad L K) (N : Nat) {x0 : Nat} {x1 : Int32} {M : ZM} {r : Int32} (h : f_X2_rightHead_0 N K len x0 x1 M = some r) {H : Heap} {locs : List Loc} {ls : Array Slot} (hW : zWd D cy ad L K len M H) (hS : va_S (zA ad L s.heap.size) s.heap H locs) (hl : lv_has ls 2 [(0, .ref (ad x0)), (1, .int x1)]) : W p l e (headSpec wsX2_rightHead ({ frames := 1, cells := 0, slots := 0, locals := 20 } : Room)).room s m args below meth c H locs 0 0 (MQ below (zQi D cy ad L K len r M s.heap.size) args s 0 0 (zA ad L s.heap.size)) (F0 m 0 ls []) := by
  obtain ⟨hx, hb, hr, hml, hown, hts, hlocks, hK, hL, hE⟩ := id C0
  have hinX2 : ∀ w ∈ wsX20, w ∈ wsX2_rightHead := by decide +kernel
  unfold f_X2_rightHead_0 at h
  refine lv_iload_n hx hb dX2_rightHead_0 rfl (lv_at hl 1 rfl) ?_
  obtain ⟨q1, e2, h⟩ := zb_some h
  refine z_calli hS (va_runSN (As := [.int x1]) (rest := []) ⟨hx, hb, hml, hown, hts⟩ (m_X6_isPlace l (M := M) hL N e2 H.size) ⟨va_cnB (host := "ArcLight") 1 hts gX2_rightHead_X6_isPlace_n33 rfl rfl rfl (hE.1 (.methodLinkNest RX2 33 yX6_isPlace "ArcLight") (by decide +kernel)) (hts (.initialized RX6) (by decide +kernel)) (by decide +kernel) ⟨Nat.le_of_ble_eq_true rfl, Nat.le_of_ble_eq_true rfl⟩, hts (.static yX6_isPlace) (by decide +kernel), trivial⟩ (z_preS hK hE hW hS [.int x1]) rfl rfl hl.1 rfl (lv_room (Nat.le_of_ble_eq_true rfl)) dX2_rightHead_1 ⟨Nat.le_of_ble_eq_true rfl, Nat.le_of_ble_eq_true rfl⟩) (fun H locs hW hS => ?_)
  refine lv_if_eq (tgt := 16) hx hb dX2_rightHead_4 (by decide) (fun c3 => ?_) (fun c3 => ?_)
  · have h := zip c3 h
    refine lv_iconst (v := -1) hx hb dX2_rightHead_16 (by decide) ?_
    exact z_iret hx hb hr hlocks hW hS (Option.some.inj h) rfl dX2_rightHead_17
  · have h := zin c3 h
    refine lv_aload_n hx hb dX2_rightHead_7 rfl (lv_at hl 0 rfl) ?_
    obtain ⟨g4, h⟩ := zg_some h
    obtain ⟨b5, e6, h⟩ := zb_some h
    refine z_get (own := RX2) (C := RX2) (T := TX2) (N := 4) (ci := 2) hx hb hts hinX2 hown hK hL hW 1 (zK_of g4) rfl (by decide) (by decide) rfl (hts (.fieldLink RX2 15 "ArcLight$Sentence" "rightHeads" "[I") (by decide +kernel)) (v := .ref (ad b5)) (zhvR e6 rfl) dX2_rightHead_8 ?_
    refine lv_iload_n hx hb dX2_rightHead_11 rfl (lv_at hl 1 rfl) ?_
    obtain ⟨g7, h⟩ := zg_some h
    refine z_iald hx hb hK hL hW g7 dX2_rightHead_12 ?_
    refine lv_goto (tgt := 17) hx hb dX2_rightHead_13 (by decide) ?_
    exact z_iret hx hb hr hlocks hW hS (Option.some.inj h) rfl dX2_rightHead_17
def f_X2_rightHead (N : Nat) (K len : Nat → Nat) (a0 : Nat) (a1 : Int32) (M : ZM) : Option (Int32) := f_X2_rightHead_0 N K len a0 a1 M
set_option maxRecDepth 100000 in
set_option maxHeartbeats 4000000 in
theorem m_X2_rightHead (l : Launch) {D : va_G} {cy : Nat → ClassId} {ad : Nat → Nat} {L : List Nat} {K len : Nat → Nat} (hL : zSh ad L K) (N : Nat) {a0 : Nat} {a1 : Int32} {M : ZM} {r : Int32} (h : f_X2_rightHead N K len a0 a1 M = some r) (sz : Nat) : Met l yX2_rightHead wsX2_rightHead ({ frames := 1, cells := 0, slots := 0, locals := 20 } : Room) (zPre D cy ad L K len sz [.ref (ad a0), .int a1] M) (zQi D cy ad L K len r M sz) 0 0 (zA ad L sz) :=
  z_entry (Qf := fun sz => zQi D cy ad L K len r M sz) (av := [.ref (ad a0), .int a1]) (by decide) rfl rfl hL (Nat.le_of_ble_eq_true rfl) (fun p e s m args below meth c C0 H locs ls hW hS hl => t_X2_rightHead_0 C0 N h hW hS (lv_sub hl [0, 1] rfl))
def f_X2_changeRightHead_0 (N : Nat) (K len : Nat → Nat) (x0 : Nat) (x1 : Int32) (x2 : Int32) (M : ZM) : Option (Int32 × ZM) :=
(f_X2_rightHead N K len x0 x2 M).bind fun q1 => (
zg (K x0 == 3) (
(f_X6_isPlace N x2).bind fun q4 => (
(if q4 = 0 then
some (q1, M)
else
(zR M x0 1).bind fun b7 => (
zg (zok K len b7 11 x2) (
zl (zsI M b7 x2.toNatClampNeg x1) fun M10 => (
some (q1, M10))))))))
set_option maxRecDepth 100000 in
set_option maxHeartbeats 4000000 in
theorem t_X2_changeRightHead_0 {p : Program} {l : Launch} {e : Env} {s : State} {m : MethodId} {args : Array Value} {below : List Frame} {meth : Method} {c : Code} {D : va_G} {cy : Nat → ClassId} {ad : Nat → Nat} {L : List Nat} {K len : Nat → Nat} (C0 : zCx p s m c meth args cX2_changeRightHead 4 wsX2_changeRightHead RX2 (some .int) D cy ad L K) (N : Nat) {x0 : Nat} {x1 : Int32} {x2 : Int32} {M : ZM} {r : Int32} {Mr : ZM} (h : f_X2_changeRightHead_0 N K len x0 x1 x2 M = some (r, Mr)) {H : Heap} {locs : List Loc} {ls : Array Slot} (hW : zWd D cy ad L K len M H) (hS : va_S (zA ad L s.heap.size) s.heap H locs) (hl : lv_has ls 4 [(0, .ref (ad x0)), (1, .int x1), (2, .int x2)]) : W p l e (headSpec wsX2_changeRightHead ({ frames := 2, cells := 0, slots := 0, locals := 41 } : Room)).room s m args below meth c H locs 0 0 (MQ below (zQi D cy ad L K len r Mr s.heap.size) args s 0 0 (zA ad L s.heap.size)) (F0 m 0 ls []) := by
  obtain ⟨hx, hb, hr, hml, hown, hts, hlocks, hK, hL, hE⟩ := id C0
  have hinX2 : ∀ w ∈ wsX20, w ∈ wsX2_changeRightHead := by decide +kernel
  unfold f_X2_changeRightHead_0 at h
  refine lv_aload_n hx hb dX2_changeRightHead_0 rfl (lv_at hl 0 rfl) ?_
  refine lv_iload_n hx hb dX2_changeRightHead_1 rfl (lv_at hl 2 rfl) ?_
  obtain ⟨q1, e2, h⟩ := zb_some h
  obtain ⟨g3, h⟩ := zg_some h
  refine z_calli hS (va_runV (As := [.int x2]) (rest := []) ⟨hx, hb, hml, hown, hts⟩ (m_X2_rightHead l hL N e2 H.size) (cwV 1 hts gX2_changeRightHead_X2_rightHead rfl rfl rfl (by decide +kernel) ⟨Nat.le_of_ble_eq_true rfl, Nat.le_of_ble_eq_true rfl⟩) (z_preV (q := (RX2, TX2, 4)) hK hL hE hW hS (zK_of g3) (by decide) rfl [.int x2]) rfl rfl hl.1 rfl (lv_room (Nat.le_of_ble_eq_true rfl)) dX2_changeRightHead_2 ⟨Nat.le_of_ble_eq_true rfl, Nat.le_of_ble_eq_true rfl⟩) (fun H locs hW hS => ?_)
  refine lv_istore_n (lv' := [(3, .int q1), (0, .ref (ad x0)), (1, .int x1), (2, .int x2)]) hx hb dX2_changeRightHead_5 rfl hl (by decide) rfl (fun ls hl => ?_)
  refine lv_iload_n hx hb dX2_changeRightHead_6 rfl (lv_at hl 3 rfl) ?_
  obtain ⟨q4, e5, h⟩ := zb_some h
  refine z_calli hS (va_runSN (As := [.int x2]) (rest := []) ⟨hx, hb, hml, hown, hts⟩ (m_X6_isPlace l (M := M) hL N e5 H.size) ⟨va_cnB (host := "ArcLight") 1 hts gX2_changeRightHead_X6_isPlace_n33 rfl rfl rfl (hE.1 (.methodLinkNest RX2 33 yX6_isPlace "ArcLight") (by decide +kernel)) (hts (.initialized RX6) (by decide +kernel)) (by decide +kernel) ⟨Nat.le_of_ble_eq_true rfl, Nat.le_of_ble_eq_true rfl⟩, hts (.static yX6_isPlace) (by decide +kernel), trivial⟩ (z_preS hK hE hW hS [.int x2]) rfl rfl hl.1 rfl (lv_room (Nat.le_of_ble_eq_true rfl)) dX2_changeRightHead_7 ⟨Nat.le_of_ble_eq_true rfl, Nat.le_of_ble_eq_true rfl⟩) (fun H locs hW hS => ?_)
  refine lv_if_eq (tgt := 20) hx hb dX2_changeRightHead_10 (by decide) (fun c6 => ?_) (fun c6 => ?_)
  · have h := zip c6 h
    refine lv_iload_n hx hb dX2_changeRightHead_20 rfl (lv_at hl 0 rfl) ?_
    exact z_iret hx hb hr hlocks hW hS (congrArg Prod.fst (Option.some.inj h)) (congrArg Prod.snd (Option.some.inj h)) dX2_changeRightHead_21
  · have h := zin c6 h
    refine lv_aload_n hx hb dX2_changeRightHead_13 rfl (lv_at hl 1 rfl) ?_
    obtain ⟨b7, e8, h⟩ := zb_some h
    refine z_get (own := RX2) (C := RX2) (T := TX2) (N := 4) (ci := 2) hx hb hts hinX2 hown hK hL hW 1 (zK_of g3) rfl (by decide) (by decide) rfl (hts (.fieldLink RX2 15 "ArcLight$Sentence" "rightHeads" "[I") (by decide +kernel)) (v := .ref (ad b7)) (zhvR e8 rfl) dX2_changeRightHead_14 ?_
    refine lv_iload_n hx hb dX2_changeRightHead_17 rfl (lv_at hl 3 rfl) ?_
    refine lv_iload_n hx hb dX2_changeRightHead_18 rfl (lv_at hl 2 rfl) ?_
    obtain ⟨g9, h⟩ := zg_some h
    refine z_iast hx hb hK hL hW hS g9 dX2_changeRightHead_19 (fun H locs hW hS => ?_)
    obtain ⟨M10, eM11, h⟩ := zl_some h
    rw [← eM11] at hW
    refine lv_iload_n hx hb dX2_changeRightHead_20 rfl (lv_at hl 0 rfl) ?_
    exact z_iret hx hb hr hlocks hW hS (congrArg Prod.fst (Option.some.inj h)) (congrArg Prod.snd (Option.some.inj h)) dX2_changeRightHead_21
def f_X2_changeRightHead (N : Nat) (K len : Nat → Nat) (a0 : Nat) (a1 : Int32) (a2 : Int32) (M : ZM) : Option (Int32 × ZM) := f_X2_changeRightHead_0 N K len a0 a1 a2 M
set_option maxRecDepth 100000 in
set_option maxHeartbeats 4000000 in
theorem m_X2_changeRightHead (l : Launch) {D : va_G} {cy : Nat → ClassId} {ad : Nat → Nat} {L : List Nat} {K len : Nat → Nat} (hL : zSh ad L K) (N : Nat) {a0 : Nat} {a1 : Int32} {a2 : Int32} {M : ZM} {r : Int32} {Mr : ZM} (h : f_X2_changeRightHead N K len a0 a1 a2 M = some (r, Mr)) (sz : Nat) : Met l yX2_changeRightHead wsX2_changeRightHead ({ frames := 2, cells := 0, slots := 0, locals := 41 } : Room) (zPre D cy ad L K len sz [.ref (ad a0), .int a1, .int a2] M) (zQi D cy ad L K len r Mr sz) 0 0 (zA ad L sz) :=
  z_entry (Qf := fun sz => zQi D cy ad L K len r Mr sz) (av := [.ref (ad a0), .int a1, .int a2]) (by decide) rfl rfl hL (Nat.le_of_ble_eq_true rfl) (fun p e s m args below meth c C0 H locs ls hW hS hl => t_X2_changeRightHead_0 C0 N h hW hS (lv_sub hl [0, 1, 2] rfl))
def f_X2_hasRightTree_38 (N : Nat) (K len : Nat → Nat) (kh2 : Nat → Int32 → Option (Int32)) (x0 : Nat) (x1 : Int32) (x2 : Int32) (M : ZM) : Option (Int32) :=
(if x2 = 0 then
kh2 x0 (x1 + 1)
else
some (0 : Int32))
set_option maxRecDepth 100000 in
set_option maxHeartbeats 4000000 in
theorem t_X2_hasRightTree_38 {p : Program} {l : Launch} {e : Env} {s : State} {m : MethodId} {args : Array Value} {below : List Frame} {meth : Method} {c : Code} {D : va_G} {cy : Nat → ClassId} {ad : Nat → Nat} {L : List Nat} {K len : Nat → Nat} (C0 : zCx p s m c meth args cX2_hasRightTree 4 wsX2_hasRightTree RX2 (some .boolean) D cy ad L K) (N : Nat) {kh2 : Nat → Int32 → Option (Int32)} {x0 : Nat} {x1 : Int32} {x2 : Int32} {M : ZM} {r : Int32} (hk2 : ∀ {y0 : Nat} {y1 : Int32}, kh2 y0 y1 = some r → ∀ {H : Heap} {locs : List Loc} {ls : Array Slot}, zWd D cy ad L K len M H → va_S (zA ad L s.heap.size) s.heap H locs → lv_has ls 4 [(0, .ref (ad y0)), (1, .int y1)] → W p l e (headSpec wsX2_hasRightTree ({ frames := 2, cells := 0, slots := 0, locals := 41 } : Room)).room s m args below meth c H locs 0 0 (MQ below (zQi D cy ad L K len r M s.heap.size) args s 0 0 (zA ad L s.heap.size)) (F0 m 2 ls [])) (h : f_X2_hasRightTree_38 N K len kh2 x0 x1 x2 M = some r) {H : Heap} {locs : List Loc} {ls : Array Slot} (hW : zWd D cy ad L K len M H) (hS : va_S (zA ad L s.heap.size) s.heap H locs) (hl : lv_has ls 4 [(0, .ref (ad x0)), (1, .int x1), (2, .int x2)]) : W p l e (headSpec wsX2_hasRightTree ({ frames := 2, cells := 0, slots := 0, locals := 41 } : Room)).room s m args below meth c H locs 0 0 (MQ below (zQi D cy ad L K len r M s.heap.size) args s 0 0 (zA ad L s.heap.size)) (F0 m 38 ls []) := by
  obtain ⟨hx, hb, hr, hml, hown, hts, hlocks, hK, hL, hE⟩ := id C0
  unfold f_X2_hasRightTree_38 at h
  refine lv_iload_n hx hb dX2_hasRightTree_38 rfl (lv_at hl 2 rfl) ?_
  refine lv_if_eq (tgt := 44) hx hb dX2_hasRightTree_39 (by decide) (fun c1 => ?_) (fun c1 => ?_)
  · have h := zip c1 h
    refine lv_iinc (k := 1) (v := (x1 + 1)) (lv' := [(1, .int (x1 + 1)), (0, .ref (ad x0)), (2, .int x2)]) hx hb dX2_hasRightTree_44 hl rfl (by rw [show Int32.ofInt 1 = (1 : Int32) from by decide]) (by decide) rfl (fun ls hl => ?_)
    refine lv_goto (tgt := 2) hx hb dX2_hasRightTree_47 (by decide) ?_
    exact hk2 h hW hS (lv_sub hl [1, 0] rfl)
  · have h := zin c1 h
    refine lv_iconst (v := 0) hx hb dX2_hasRightTree_42 (by decide) ?_
    exact z_zret hx hb hr hlocks hW hS (by decide) (Option.some.inj h) rfl dX2_hasRightTree_43
def f_X2_hasRightTree_14 (N : Nat) (K len : Nat → Nat) (kh2 : Nat → Int32 → Option (Int32)) : Nat → Nat → Int32 → Int32 → Int32 → ZM → Option (Int32)
  | 0, _, _, _, _, _ => none
  | n + 1, x0, x1, x2, x3, M =>
    zg (K x0 == 3) (
    (if (zI M x0 3) ≤ x3 then
    f_X2_hasRightTree_38 N K len kh2 x0 x1 x2 M
    else
    (if x2 ≤ 0 then
    f_X2_hasRightTree_38 N K len kh2 x0 x1 x2 M
    else
    (f_X2_rightHead N K len x0 x2 M).bind fun q4 => (
    f_X2_hasRightTree_14 N K len kh2 n x0 x1 q4 (x3 + 1) M))))
set_option maxRecDepth 100000 in
set_option maxHeartbeats 4000000 in
theorem t_X2_hasRightTree_14 {p : Program} {l : Launch} {e : Env} {s : State} {m : MethodId} {args : Array Value} {below : List Frame} {meth : Method} {c : Code} {D : va_G} {cy : Nat → ClassId} {ad : Nat → Nat} {L : List Nat} {K len : Nat → Nat} (C0 : zCx p s m c meth args cX2_hasRightTree 4 wsX2_hasRightTree RX2 (some .boolean) D cy ad L K) (N : Nat) {kh2 : Nat → Int32 → Option (Int32)} {M : ZM} {r : Int32} (hk2 : ∀ {y0 : Nat} {y1 : Int32}, kh2 y0 y1 = some r → ∀ {H : Heap} {locs : List Loc} {ls : Array Slot}, zWd D cy ad L K len M H → va_S (zA ad L s.heap.size) s.heap H locs → lv_has ls 4 [(0, .ref (ad y0)), (1, .int y1)] → W p l e (headSpec wsX2_hasRightTree ({ frames := 2, cells := 0, slots := 0, locals := 41 } : Room)).room s m args below meth c H locs 0 0 (MQ below (zQi D cy ad L K len r M s.heap.size) args s 0 0 (zA ad L s.heap.size)) (F0 m 2 ls [])) : ∀ (n : Nat) {x0 : Nat} {x1 : Int32} {x2 : Int32} {x3 : Int32}, f_X2_hasRightTree_14 N K len kh2 n x0 x1 x2 x3 M = some r → ∀ {H : Heap} {locs : List Loc} {ls : Array Slot}, zWd D cy ad L K len M H → va_S (zA ad L s.heap.size) s.heap H locs → lv_has ls 4 [(0, .ref (ad x0)), (1, .int x1), (2, .int x2), (3, .int x3)] → W p l e (headSpec wsX2_hasRightTree ({ frames := 2, cells := 0, slots := 0, locals := 41 } : Room)).room s m args below meth c H locs 0 0 (MQ below (zQi D cy ad L K len r M s.heap.size) args s 0 0 (zA ad L s.heap.size)) (F0 m 14 ls []) := by
  obtain ⟨hx, hb, hr, hml, hown, hts, hlocks, hK, hL, hE⟩ := id C0
  have hinX2 : ∀ w ∈ wsX20, w ∈ wsX2_hasRightTree := by decide +kernel
  intro n
  induction n with
  | zero =>
    intro x0 x1 x2 x3 h
    cases (show (none : Option (Int32)) = some r from h)
  | succ n ih =>
    intro x0 x1 x2 x3 h H locs ls hW hS hl
    rw [f_X2_hasRightTree_14] at h
    refine lv_iload_n hx hb dX2_hasRightTree_14 rfl (lv_at hl 3 rfl) ?_
    refine lv_aload_n hx hb dX2_hasRightTree_15 rfl (lv_at hl 0 rfl) ?_
    obtain ⟨g1, h⟩ := zg_some h
    refine z_get (own := RX2) (C := RX2) (T := TX2) (N := 4) (ci := 2) hx hb hts hinX2 hown hK hL hW 3 (zK_of g1) rfl (by decide) (by decide) rfl (hts (.fieldLink RX2 23 "ArcLight$Sentence" "last" "I") (by decide +kernel)) (v := .int (zI M x0 3)) rfl dX2_hasRightTree_16 ?_
    refine lv_icmp_ge (tgt := 38) hx hb dX2_hasRightTree_19 (by decide) (fun c2 => ?_) (fun c2 => ?_)
    · have h := zip c2 h
      exact t_X2_hasRightTree_38 C0 N hk2 h hW hS (lv_sub hl [0, 1, 2] rfl)
    · have h := zin c2 h
      refine lv_iload_n hx hb dX2_hasRightTree_22 rfl (lv_at hl 2 rfl) ?_
      refine lv_if_le (tgt := 38) hx hb dX2_hasRightTree_23 (by decide) (fun c3 => ?_) (fun c3 => ?_)
      · have h := zip c3 h
        exact t_X2_hasRightTree_38 C0 N hk2 h hW hS (lv_sub hl [0, 1, 2] rfl)
      · have h := zin c3 h
        refine lv_aload_n hx hb dX2_hasRightTree_26 rfl (lv_at hl 0 rfl) ?_
        refine lv_iload_n hx hb dX2_hasRightTree_27 rfl (lv_at hl 2 rfl) ?_
        obtain ⟨q4, e5, h⟩ := zb_some h
        refine z_calli hS (va_runV (As := [.int x2]) (rest := []) ⟨hx, hb, hml, hown, hts⟩ (m_X2_rightHead l hL N e5 H.size) (cwV 1 hts gX2_hasRightTree_X2_rightHead rfl rfl rfl (by decide +kernel) ⟨Nat.le_of_ble_eq_true rfl, Nat.le_of_ble_eq_true rfl⟩) (z_preV (q := (RX2, TX2, 4)) hK hL hE hW hS (zK_of g1) (by decide) rfl [.int x2]) rfl rfl hl.1 rfl (lv_room (Nat.le_of_ble_eq_true rfl)) dX2_hasRightTree_28 ⟨Nat.le_of_ble_eq_true rfl, Nat.le_of_ble_eq_true rfl⟩) (fun H locs hW hS => ?_)
        refine lv_istore_n (lv' := [(2, .int q4), (0, .ref (ad x0)), (1, .int x1), (3, .int x3)]) hx hb dX2_hasRightTree_31 rfl hl (by decide) rfl (fun ls hl => ?_)
        refine lv_iinc (k := 3) (v := (x3 + 1)) (lv' := [(3, .int (x3 + 1)), (2, .int q4), (0, .ref (ad x0)), (1, .int x1)]) hx hb dX2_hasRightTree_32 hl rfl (by rw [show Int32.ofInt 1 = (1 : Int32) from by decide]) (by decide) rfl (fun ls hl => ?_)
        refine lv_goto (tgt := 14) hx hb dX2_hasRightTree_35 (by decide) ?_
        exact ih h hW hS (lv_sub hl [2, 3, 1, 0] rfl)
def f_X2_hasRightTree_2 (N : Nat) (K len : Nat → Nat) : Nat → Nat → Int32 → ZM → Option (Int32)
  | 0, _, _, _ => none
  | n + 1, x0, x1, M =>
    zg (K x0 == 3) (
    (if (zI M x0 3) < x1 then
    some (1 : Int32)
    else
    f_X2_hasRightTree_14 N K len (fun y0 y1 => f_X2_hasRightTree_2 N K len  n y0 y1 M) N x0 x1 x1 (0 : Int32) M))
set_option maxRecDepth 100000 in
set_option maxHeartbeats 4000000 in
theorem t_X2_hasRightTree_2 {p : Program} {l : Launch} {e : Env} {s : State} {m : MethodId} {args : Array Value} {below : List Frame} {meth : Method} {c : Code} {D : va_G} {cy : Nat → ClassId} {ad : Nat → Nat} {L : List Nat} {K len : Nat → Nat} (C0 : zCx p s m c meth args cX2_hasRightTree 4 wsX2_hasRightTree RX2 (some .boolean) D cy ad L K) (N : Nat) {M : ZM} {r : Int32} : ∀ (n : Nat) {x0 : Nat} {x1 : Int32}, f_X2_hasRightTree_2 N K len n x0 x1 M = some r → ∀ {H : Heap} {locs : List Loc} {ls : Array Slot}, zWd D cy ad L K len M H → va_S (zA ad L s.heap.size) s.heap H locs → lv_has ls 4 [(0, .ref (ad x0)), (1, .int x1)] → W p l e (headSpec wsX2_hasRightTree ({ frames := 2, cells := 0, slots := 0, locals := 41 } : Room)).room s m args below meth c H locs 0 0 (MQ below (zQi D cy ad L K len r M s.heap.size) args s 0 0 (zA ad L s.heap.size)) (F0 m 2 ls []) := by
  obtain ⟨hx, hb, hr, hml, hown, hts, hlocks, hK, hL, hE⟩ := id C0
  have hinX2 : ∀ w ∈ wsX20, w ∈ wsX2_hasRightTree := by decide +kernel
  intro n
  induction n with
  | zero =>
    intro x0 x1 h
    cases (show (none : Option (Int32)) = some r from h)
  | succ n ih =>
    intro x0 x1 h H locs ls hW hS hl
    rw [f_X2_hasRightTree_2] at h
    refine lv_iload_n hx hb dX2_hasRightTree_2 rfl (lv_at hl 1 rfl) ?_
    refine lv_aload_n hx hb dX2_hasRightTree_3 rfl (lv_at hl 0 rfl) ?_
    obtain ⟨g1, h⟩ := zg_some h
    refine z_get (own := RX2) (C := RX2) (T := TX2) (N := 4) (ci := 2) hx hb hts hinX2 hown hK hL hW 3 (zK_of g1) rfl (by decide) (by decide) rfl (hts (.fieldLink RX2 23 "ArcLight$Sentence" "last" "I") (by decide +kernel)) (v := .int (zI M x0 3)) rfl dX2_hasRightTree_4 ?_
    refine lv_icmp_gt (tgt := 50) hx hb dX2_hasRightTree_7 (by decide) (fun c2 => ?_) (fun c2 => ?_)
    · have h := zip c2 h
      refine lv_iconst (v := 1) hx hb dX2_hasRightTree_50 (by decide) ?_
      exact z_zret hx hb hr hlocks hW hS (by decide) (Option.some.inj h) rfl dX2_hasRightTree_51
    · have h := zin c2 h
      refine lv_iload_n hx hb dX2_hasRightTree_10 rfl (lv_at hl 1 rfl) ?_
      refine lv_istore_n (lv' := [(2, .int x1), (0, .ref (ad x0)), (1, .int x1)]) hx hb dX2_hasRightTree_11 rfl hl (by decide) rfl (fun ls hl => ?_)
      refine lv_iconst (v := 0) hx hb dX2_hasRightTree_12 (by decide) ?_
      refine lv_istore_n (lv' := [(3, .int (0 : Int32)), (2, .int x1), (0, .ref (ad x0)), (1, .int x1)]) hx hb dX2_hasRightTree_13 rfl hl (by decide) rfl (fun ls hl => ?_)
      exact t_X2_hasRightTree_14 C0 N (fun h _ _ _ hW hS hl => ih h hW hS hl) N h hW hS (lv_sub hl [2, 3, 1, 0] rfl)
def f_X2_hasRightTree_0 (N : Nat) (K len : Nat → Nat) (x0 : Nat) (M : ZM) : Option (Int32) :=
f_X2_hasRightTree_2 N K len  N x0 (1 : Int32) M
set_option maxRecDepth 100000 in
set_option maxHeartbeats 4000000 in
theorem t_X2_hasRightTree_0 {p : Program} {l : Launch} {e : Env} {s : State} {m : MethodId} {args : Array Value} {below : List Frame} {meth : Method} {c : Code} {D : va_G} {cy : Nat → ClassId} {ad : Nat → Nat} {L : List Nat} {K len : Nat → Nat} (C0 : zCx p s m c meth args cX2_hasRightTree 4 wsX2_hasRightTree RX2 (some .boolean) D cy ad L K) (N : Nat) {x0 : Nat} {M : ZM} {r : Int32} (h : f_X2_hasRightTree_0 N K len x0 M = some r) {H : Heap} {locs : List Loc} {ls : Array Slot} (hW : zWd D cy ad L K len M H) (hS : va_S (zA ad L s.heap.size) s.heap H locs) (hl : lv_has ls 4 [(0, .ref (ad x0))]) : W p l e (headSpec wsX2_hasRightTree ({ frames := 2, cells := 0, slots := 0, locals := 41 } : Room)).room s m args below meth c H locs 0 0 (MQ below (zQi D cy ad L K len r M s.heap.size) args s 0 0 (zA ad L s.heap.size)) (F0 m 0 ls []) := by
  obtain ⟨hx, hb, hr, hml, hown, hts, hlocks, hK, hL, hE⟩ := id C0
  unfold f_X2_hasRightTree_0 at h
  refine lv_iconst (v := 1) hx hb dX2_hasRightTree_0 (by decide) ?_
  refine lv_istore_n (lv' := [(1, .int (1 : Int32)), (0, .ref (ad x0))]) hx hb dX2_hasRightTree_1 rfl hl (by decide) rfl (fun ls hl => ?_)
  exact t_X2_hasRightTree_2 C0 N  N h hW hS (lv_sub hl [1, 0] rfl)
def f_X2_hasRightTree (N : Nat) (K len : Nat → Nat) (a0 : Nat) (M : ZM) : Option (Int32) := f_X2_hasRightTree_0 N K len a0 M
set_option maxRecDepth 100000 in
set_option maxHeartbeats 4000000 in
theorem m_X2_hasRightTree (l : Launch) {D : va_G} {cy : Nat → ClassId} {ad : Nat → Nat} {L : List Nat} {K len : Nat → Nat} (hL : zSh ad L K) (N : Nat) {a0 : Nat} {M : ZM} {r : Int32} (h : f_X2_hasRightTree N K len a0 M = some r) (sz : Nat) : Met l yX2_hasRightTree wsX2_hasRightTree ({ frames := 2, cells := 0, slots := 0, locals := 41 } : Room) (zPre D cy ad L K len sz [.ref (ad a0)] M) (zQi D cy ad L K len r M sz) 0 0 (zA ad L sz) :=
  z_entry (Qf := fun sz => zQi D cy ad L K len r M sz) (av := [.ref (ad a0)]) (by decide) rfl rfl hL (Nat.le_of_ble_eq_true rfl) (fun p e s m args below meth c C0 H locs ls hW hS hl => t_X2_hasRightTree_0 C0 N h hW hS (lv_sub hl [0] rfl))
def f_X0_size_0 (N : Nat) (K len : Nat → Nat) (x0 : Nat) (M : ZM) : Option (Int32) :=
zg (K x0 == 1) (
some (zI M x0 1))
set_option maxRecDepth 100000 in
set_option maxHeartbeats 4000000 in
theorem t_X0_size_0 {p : Program} {l : Launch} {e : Env} {s : State} {m : MethodId} {args : Array Value} {below : List Frame} {meth : Method} {c : Code} {D : va_G} {cy : Nat → ClassId} {ad : Nat → Nat} {L : List Nat} {K len : Nat → Nat} (C0 : zCx p s m c meth args cX0_size 1 wsX0_size RX0 (some .int) D cy ad L K) (N : Nat) {x0 : Nat} {M : ZM} {r : Int32} (h : f_X0_size_0 N K len x0 M = some r) {H : Heap} {locs : List Loc} {ls : Array Slot} (hW : zWd D cy ad L K len M H) (hS : va_S (zA ad L s.heap.size) s.heap H locs) (hl : lv_has ls 1 [(0, .ref (ad x0))]) : W p l e (headSpec wsX0_size ({ frames := 0, cells := 0, slots := 0, locals := 0 } : Room)).room s m args below meth c H locs 0 0 (MQ below (zQi D cy ad L K len r M s.heap.size) args s 0 0 (zA ad L s.heap.size)) (F0 m 0 ls []) := by
  obtain ⟨hx, hb, hr, hml, hown, hts, hlocks, hK, hL, hE⟩ := id C0
  have hinX0 : ∀ w ∈ wsX00, w ∈ wsX0_size := by decide +kernel
  unfold f_X0_size_0 at h
  refine lv_aload_n hx hb dX0_size_0 rfl (lv_at hl 0 rfl) ?_
  obtain ⟨g1, h⟩ := zg_some h
  refine z_get (own := RX0) (C := RX0) (T := TX0) (N := 2) (ci := 0) hx hb hts hinX0 hown hK hL hW 1 (zK_of g1) rfl (by decide) (by decide) rfl (hts (.fieldLink RX0 16 "ArcLight$ArcKeys" "last" "I") (by decide +kernel)) (v := .int (zI M x0 1)) rfl dX0_size_1 ?_
  exact z_iret hx hb hr hlocks hW hS (Option.some.inj h) rfl dX0_size_4
def f_X0_size (N : Nat) (K len : Nat → Nat) (a0 : Nat) (M : ZM) : Option (Int32) := f_X0_size_0 N K len a0 M
set_option maxRecDepth 100000 in
set_option maxHeartbeats 4000000 in
theorem m_X0_size (l : Launch) {D : va_G} {cy : Nat → ClassId} {ad : Nat → Nat} {L : List Nat} {K len : Nat → Nat} (hL : zSh ad L K) (N : Nat) {a0 : Nat} {M : ZM} {r : Int32} (h : f_X0_size N K len a0 M = some r) (sz : Nat) : Met l yX0_size wsX0_size ({ frames := 0, cells := 0, slots := 0, locals := 0 } : Room) (zPre D cy ad L K len sz [.ref (ad a0)] M) (zQi D cy ad L K len r M sz) 0 0 (zA ad L sz) :=
  z_entry (Qf := fun sz => zQi D cy ad L K len r M sz) (av := [.ref (ad a0)]) (by decide) rfl rfl hL (Nat.le_of_ble_eq_true rfl) (fun p e s m args below meth c C0 H locs ls hW hS hl => t_X0_size_0 C0 N h hW hS (lv_sub hl [0] rfl))
def f_X0_get_25 (N : Nat) (K len : Nat → Nat) (M : ZM) : Option (Int64) :=
some (-9223372036854775808 : Int64)
set_option maxRecDepth 100000 in
set_option maxHeartbeats 4000000 in
theorem t_X0_get_25 {p : Program} {l : Launch} {e : Env} {s : State} {m : MethodId} {args : Array Value} {below : List Frame} {meth : Method} {c : Code} {D : va_G} {cy : Nat → ClassId} {ad : Nat → Nat} {L : List Nat} {K len : Nat → Nat} (C0 : zCx p s m c meth args cX0_get 3 wsX0_get RX0 (some .long) D cy ad L K) (N : Nat) {M : ZM} {r : Int64} (h : f_X0_get_25 N K len M = some r) {H : Heap} {locs : List Loc} {ls : Array Slot} (hW : zWd D cy ad L K len M H) (hS : va_S (zA ad L s.heap.size) s.heap H locs) (hl : lv_has ls 3 []) : W p l e (headSpec wsX0_get ({ frames := 1, cells := 0, slots := 0, locals := 20 } : Room)).room s m args below meth c H locs 0 0 (MQ below (zQl D cy ad L K len r M s.heap.size) args s 0 0 (zA ad L s.heap.size)) (F0 m 25 ls []) := by
  obtain ⟨hx, hb, hr, hml, hown, hts, hlocks, hK, hL, hE⟩ := id C0
  unfold f_X0_get_25 at h
  refine lv_ldc2 hx hb hown (hts (.constantLong RX0 32 (-9223372036854775808)) (by decide +kernel)) dX0_get_25 ?_
  exact z_lret hx hb hr hlocks hW hS (Option.some.inj h) rfl dX0_get_28
def f_X0_get_0 (N : Nat) (K len : Nat → Nat) (x0 : Nat) (x1 : Int32) (x2 : Int32) (M : ZM) : Option (Int64) :=
(f_X6_isPlace N x1).bind fun q1 => (
(if q1 = 0 then
f_X0_get_25 N K len  M
else
(f_X6_isPlace N x2).bind fun q4 => (
(if q4 = 0 then
f_X0_get_25 N K len  M
else
zg (K x0 == 1) (
(zR M x0 0).bind fun b8 => (
zg (zok K len b8 16 x1) (
(zR M b8 x1.toNatClampNeg).bind fun b11 => (
zg (zok K len b11 12 x2) (
some (zJ M b11 x2.toNatClampNeg))))))))))
set_option maxRecDepth 100000 in
set_option maxHeartbeats 4000000 in
theorem t_X0_get_0 {p : Program} {l : Launch} {e : Env} {s : State} {m : MethodId} {args : Array Value} {below : List Frame} {meth : Method} {c : Code} {D : va_G} {cy : Nat → ClassId} {ad : Nat → Nat} {L : List Nat} {K len : Nat → Nat} (C0 : zCx p s m c meth args cX0_get 3 wsX0_get RX0 (some .long) D cy ad L K) (N : Nat) {x0 : Nat} {x1 : Int32} {x2 : Int32} {M : ZM} {r : Int64} (h : f_X0_get_0 N K len x0 x1 x2 M = some r) {H : Heap} {locs : List Loc} {ls : Array Slot} (hW : zWd D cy ad L K len M H) (hS : va_S (zA ad L s.heap.size) s.heap H locs) (hl : lv_has ls 3 [(0, .ref (ad x0)), (1, .int x1), (2, .int x2)]) : W p l e (headSpec wsX0_get ({ frames := 1, cells := 0, slots := 0, locals := 20 } : Room)).room s m args below meth c H locs 0 0 (MQ below (zQl D cy ad L K len r M s.heap.size) args s 0 0 (zA ad L s.heap.size)) (F0 m 0 ls []) := by
  obtain ⟨hx, hb, hr, hml, hown, hts, hlocks, hK, hL, hE⟩ := id C0
  have hinX0 : ∀ w ∈ wsX00, w ∈ wsX0_get := by decide +kernel
  unfold f_X0_get_0 at h
  refine lv_iload_n hx hb dX0_get_0 rfl (lv_at hl 1 rfl) ?_
  obtain ⟨q1, e2, h⟩ := zb_some h
  refine z_calli hS (va_runSN (As := [.int x1]) (rest := []) ⟨hx, hb, hml, hown, hts⟩ (m_X6_isPlace l (M := M) hL N e2 H.size) ⟨va_cnB (host := "ArcLight") 1 hts gX0_get_X6_isPlace_n50 rfl rfl rfl (hE.1 (.methodLinkNest RX0 50 yX6_isPlace "ArcLight") (by decide +kernel)) (hts (.initialized RX6) (by decide +kernel)) (by decide +kernel) ⟨Nat.le_of_ble_eq_true rfl, Nat.le_of_ble_eq_true rfl⟩, hts (.static yX6_isPlace) (by decide +kernel), trivial⟩ (z_preS hK hE hW hS [.int x1]) rfl rfl hl.1 rfl (lv_room (Nat.le_of_ble_eq_true rfl)) dX0_get_1 ⟨Nat.le_of_ble_eq_true rfl, Nat.le_of_ble_eq_true rfl⟩) (fun H locs hW hS => ?_)
  refine lv_if_eq (tgt := 25) hx hb dX0_get_4 (by decide) (fun c3 => ?_) (fun c3 => ?_)
  · have h := zip c3 h
    exact t_X0_get_25 C0 N  h hW hS (lv_sub hl [] rfl)
  · have h := zin c3 h
    refine lv_iload_n hx hb dX0_get_7 rfl (lv_at hl 2 rfl) ?_
    obtain ⟨q4, e5, h⟩ := zb_some h
    refine z_calli hS (va_runSN (As := [.int x2]) (rest := []) ⟨hx, hb, hml, hown, hts⟩ (m_X6_isPlace l (M := M) hL N e5 H.size) ⟨va_cnB (host := "ArcLight") 1 hts gX0_get_X6_isPlace_n50 rfl rfl rfl (hE.1 (.methodLinkNest RX0 50 yX6_isPlace "ArcLight") (by decide +kernel)) (hts (.initialized RX6) (by decide +kernel)) (by decide +kernel) ⟨Nat.le_of_ble_eq_true rfl, Nat.le_of_ble_eq_true rfl⟩, hts (.static yX6_isPlace) (by decide +kernel), trivial⟩ (z_preS hK hE hW hS [.int x2]) rfl rfl hl.1 rfl (lv_room (Nat.le_of_ble_eq_true rfl)) dX0_get_8 ⟨Nat.le_of_ble_eq_true rfl, Nat.le_of_ble_eq_true rfl⟩) (fun H locs hW hS => ?_)
    refine lv_if_eq (tgt := 25) hx hb dX0_get_11 (by decide) (fun c6 => ?_) (fun c6 => ?_)
    · have h := zip c6 h
      exact t_X0_get_25 C0 N  h hW hS (lv_sub hl [] rfl)
    · have h := zin c6 h
      refine lv_aload_n hx hb dX0_get_14 rfl (lv_at hl 0 rfl) ?_
      obtain ⟨g7, h⟩ := zg_some h
      obtain ⟨b8, e9, h⟩ := zb_some h
      refine z_get (own := RX0) (C := RX0) (T := TX0) (N := 2) (ci := 0) hx hb hts hinX0 hown hK hL hW 0 (zK_of g7) rfl (by decide) (by decide) rfl (hts (.fieldLink RX0 11 "ArcLight$ArcKeys" "keys" "[[J") (by decide +kernel)) (v := .ref (ad b8)) (zhvR e9 rfl) dX0_get_15 ?_
      refine lv_iload_n hx hb dX0_get_18 rfl (lv_at hl 1 rfl) ?_
      obtain ⟨g10, h⟩ := zg_some h
      obtain ⟨b11, e12, h⟩ := zb_some h
      refine z_aaldS hx hb hK hL hW 16 g10 (by decide) e12 dX0_get_19 ?_
      refine lv_iload_n hx hb dX0_get_20 rfl (lv_at hl 2 rfl) ?_
      obtain ⟨g13, h⟩ := zg_some h
      refine z_lald hx hb hK hL hW g13 dX0_get_21 ?_
      refine lv_goto (tgt := 28) hx hb dX0_get_22 (by decide) ?_
      exact z_lret hx hb hr hlocks hW hS (Option.some.inj h) rfl dX0_get_28
def f_X0_get (N : Nat) (K len : Nat → Nat) (a0 : Nat) (a1 : Int32) (a2 : Int32) (M : ZM) : Option (Int64) := f_X0_get_0 N K len a0 a1 a2 M
set_option maxRecDepth 100000 in
set_option maxHeartbeats 4000000 in
theorem m_X0_get (l : Launch) {D : va_G} {cy : Nat → ClassId} {ad : Nat → Nat} {L : List Nat} {K len : Nat → Nat} (hL : zSh ad L K) (N : Nat) {a0 : Nat} {a1 : Int32} {a2 : Int32} {M : ZM} {r : Int64} (h : f_X0_get N K len a0 a1 a2 M = some r) (sz : Nat) : Met l yX0_get wsX0_get ({ frames := 1, cells := 0, slots := 0, locals := 20 } : Room) (zPre D cy ad L K len sz [.ref (ad a0), .int a1, .int a2] M) (zQl D cy ad L K len r M sz) 0 0 (zA ad L sz) :=
  z_entry (Qf := fun sz => zQl D cy ad L K len r M sz) (av := [.ref (ad a0), .int a1, .int a2]) (by decide) rfl rfl hL (Nat.le_of_ble_eq_true rfl) (fun p e s m args below meth c C0 H locs ls hW hS hl => t_X0_get_0 C0 N h hW hS (lv_sub hl [0, 1, 2] rfl))

/-! Walks laid by program (wip/whole/gen): X4_giveHeads -/
def f_X4_giveHeads_97 (N : Nat) (K len : Nat → Nat) (rec : Nat → Nat → Int32 → Int32 → Int64 → ZM → Option ZM) (kh24 : Nat → Nat → Int32 → Int32 → Int64 → Int32 → ZM → Option (ZM)) (x0 : Nat) (x1 : Nat) (x2 : Int32) (x3 : Int32) (x4 : Int64) (x6 : Int32) (M : ZM) : Option (ZM) :=
kh24 x0 x1 x2 x3 x4 (x6 + 1) M
def f_X4_giveHeads_75 (N : Nat) (K len : Nat → Nat) (rec : Nat → Nat → Int32 → Int32 → Int64 → ZM → Option ZM) (kh24 : Nat → Nat → Int32 → Int32 → Int64 → Int32 → ZM → Option (ZM)) (x0 : Nat) (x1 : Nat) (x2 : Int32) (x3 : Int32) (x4 : Int64) (x6 : Int32) (x7 : Int64) (M : ZM) : Option (ZM) :=
zg (K x0 == 5) (
(zR M x0 1).bind fun b2 => (
zg (zok K len b2 11 x3) (
zl (zsI M b2 x3.toNatClampNeg x6) fun M5 => (
(rec x0 x1 x2 (x3 + (1 : Int32)) (x4 + x7) M5).bind fun M9 => (
f_X4_giveHeads_97 N K len rec kh24 x0 x1 x2 x3 x4 x6 M9)))))
def f_X4_giveHeads_24 (N : Nat) (K len : Nat → Nat) (rec : Nat → Nat → Int32 → Int32 → Int64 → ZM → Option ZM) : Nat → Nat → Nat → Int32 → Int32 → Int64 → Int32 → ZM → Option (ZM)
  | 0, _, _, _, _, _, _, _ => none
  | n + 1, x0, x1, x2, x3, x4, x6, M =>
    (f_X0_size N K len x1 M).bind fun q1 => (
    zg (K x1 == 1) (
    (if q1 < x6 then
    some M
    else
    (f_X0_get N K len x1 x6 x3 M).bind fun q5 => (
    (if q5 = (-9223372036854775808 : Int64) then
    f_X4_giveHeads_97 N K len rec (fun y0 y1 y2 y3 y4 y6 M => f_X4_giveHeads_24 N K len rec  n y0 y1 y2 y3 y4 y6 M) x0 x1 x2 x3 x4 x6 M
    else
    (f_X4_closesCircle N K len x0 x6 x3 M).bind fun q8 => (
    zg (K x0 == 5) (
    (if q8 = 0 then
    (if x2 = 0 then
    (f_X4_crossesEarlier N K len x0 x6 x3 M).bind fun q13 => (
    (if q13 = 0 then
    f_X4_giveHeads_75 N K len rec (fun y0 y1 y2 y3 y4 y6 M => f_X4_giveHeads_24 N K len rec  n y0 y1 y2 y3 y4 y6 M) x0 x1 x2 x3 x4 x6 q5 M
    else
    f_X4_giveHeads_97 N K len rec (fun y0 y1 y2 y3 y4 y6 M => f_X4_giveHeads_24 N K len rec  n y0 y1 y2 y3 y4 y6 M) x0 x1 x2 x3 x4 x6 M))
    else
    f_X4_giveHeads_75 N K len rec (fun y0 y1 y2 y3 y4 y6 M => f_X4_giveHeads_24 N K len rec  n y0 y1 y2 y3 y4 y6 M) x0 x1 x2 x3 x4 x6 q5 M)
    else
    f_X4_giveHeads_97 N K len rec (fun y0 y1 y2 y3 y4 y6 M => f_X4_giveHeads_24 N K len rec  n y0 y1 y2 y3 y4 y6 M) x0 x1 x2 x3 x4 x6 M))))))))
def f_X4_giveHeads_14 (N : Nat) (K len : Nat → Nat) (rec : Nat → Nat → Int32 → Int32 → Int64 → ZM → Option ZM) (x0 : Nat) (x4 : Int64) (M : ZM) : Option (ZM) :=
(f_X4_note N K len x0 x4 M).bind fun M3 => (
zg (K x0 == 5) (
some M3))
def f_X4_giveHeads_0 (N : Nat) (K len : Nat → Nat) (rec : Nat → Nat → Int32 → Int32 → Int64 → ZM → Option ZM) (x0 : Nat) (x1 : Nat) (x2 : Int32) (x3 : Int32) (x4 : Int64) (M : ZM) : Option (ZM) :=
(f_X0_size N K len x1 M).bind fun q1 => (
zg (K x1 == 1) (
(if q1 < x3 then
f_X4_giveHeads_14 N K len rec  x0 x4 M
else
(if x3 ≤ (6 : Int32) then
f_X4_giveHeads_24 N K len rec  N x0 x1 x2 x3 x4 (0 : Int32) M
else
f_X4_giveHeads_14 N K len rec  x0 x4 M))))
def f_X4_giveHeads (N : Nat) (K len : Nat → Nat) : Nat → Nat → Nat → Int32 → Int32 → Int64 → ZM → Option ZM
  | 0, _, _, _, _, _, _ => none
  | d + 1, a0, a1, a2, a3, a4, M => f_X4_giveHeads_0 N K len (fun b0 b1 b2 b3 b4 M => f_X4_giveHeads N K len d b0 b1 b2 b3 b4 M) a0 a1 a2 a3 a4 M
theorem m_X4_giveHeads_d0 (l : Launch) {D : va_G} {cy : Nat → ClassId} {ad : Nat → Nat} {L : List Nat} {K len : Nat → Nat} (hL : zSh ad L K) (N : Nat) {a0 : Nat} {a1 : Nat} {a2 : Int32} {a3 : Int32} {a4 : Int64} {M Mr : ZM} (h : f_X4_giveHeads N K len 0 a0 a1 a2 a3 a4 M = some Mr) (sz : Nat) : Met l yX4_giveHeads wsX4_giveHeads ({ frames := 3, cells := 0, slots := 0, locals := 74 } : Room) (zPre D cy ad L K len sz [.ref (ad a0), .ref (ad a1), .int a2, .int a3, .long a4] M) (zQv D cy ad L K len Mr sz) 0 0 (zA ad L sz) := by cases (show (none : Option ZM) = some Mr from h)

set_option maxRecDepth 100000 in
set_option maxHeartbeats 4000000 in
theorem t_X4_giveHeads_97_d1 {p : Program} {l : Launch} {e : Env} {s : State} {m : MethodId} {args : Array Value} {below : List Frame} {meth : Method} {c : Code} {D : va_G} {cy : Nat → ClassId} {ad : Nat → Nat} {L : List Nat} {K len : Nat → Nat} (C0 : zCx p s m c meth args cX4_giveHeads 9 wsX4_giveHeads RX4 none D cy ad L K) (N : Nat) {kh24 : Nat → Nat → Int32 → Int32 → Int64 → Int32 → ZM → Option (ZM)} {x0 : Nat} {x1 : Nat} {x2 : Int32} {x3 : Int32} {x4 : Int64} {x6 : Int32} {M : ZM} {Mr : ZM} (hk24 : ∀ {y0 : Nat} {y1 : Nat} {y2 : Int32} {y3 : Int32} {y4 : Int64} {y6 : Int32} {M : ZM}, kh24 y0 y1 y2 y3 y4 y6 M = some Mr → ∀ {H : Heap} {locs : List Loc} {ls : Array Slot}, zWd D cy ad L K len M H → va_S (zA ad L s.heap.size) s.heap H locs → lv_has ls 9 [(0, .ref (ad y0)), (1, .ref (ad y1)), (2, .int y2), (3, .int y3), (4, .long y4), (6, .int y6)] → W p l e (headSpec wsX4_giveHeads ({ frames := 4, cells := 0, slots := 0, locals := 102 } : Room)).room s m args below meth c H locs 0 0 (MQ below (zQv D cy ad L K len Mr s.heap.size) args s 0 0 (zA ad L s.heap.size)) (F0 m 24 ls [])) (h : f_X4_giveHeads_97 N K len (f_X4_giveHeads N K len 0) kh24 x0 x1 x2 x3 x4 x6 M = some Mr) {H : Heap} {locs : List Loc} {ls : Array Slot} (hW : zWd D cy ad L K len M H) (hS : va_S (zA ad L s.heap.size) s.heap H locs) (hl : lv_has ls 9 [(0, .ref (ad x0)), (1, .ref (ad x1)), (2, .int x2), (3, .int x3), (4, .long x4), (6, .int x6)]) : W p l e (headSpec wsX4_giveHeads ({ frames := 4, cells := 0, slots := 0, locals := 102 } : Room)).room s m args below meth c H locs 0 0 (MQ below (zQv D cy ad L K len Mr s.heap.size) args s 0 0 (zA ad L s.heap.size)) (F0 m 97 ls []) := by
  obtain ⟨hx, hb, hr, hml, hown, hts, hlocks, hK, hL, hE⟩ := id C0
  unfold f_X4_giveHeads_97 at h
  refine lv_iinc (k := 5) (v := (x6 + 1)) (lv' := [(6, .int (x6 + 1)), (0, .ref (ad x0)), (1, .ref (ad x1)), (2, .int x2), (3, .int x3), (4, .long x4)]) hx hb dX4_giveHeads_97 hl rfl (by rw [show Int32.ofInt 1 = (1 : Int32) from by decide]) (by decide) rfl (fun ls hl => ?_)
  refine lv_goto (tgt := 24) hx hb dX4_giveHeads_100 (by decide) ?_
  exact hk24 h hW hS (lv_sub hl [1, 2, 3, 4, 5, 0] rfl)
set_option maxRecDepth 100000 in
set_option maxHeartbeats 4000000 in
theorem t_X4_giveHeads_75_d1 {p : Program} {l : Launch} {e : Env} {s : State} {m : MethodId} {args : Array Value} {below : List Frame} {meth : Method} {c : Code} {D : va_G} {cy : Nat → ClassId} {ad : Nat → Nat} {L : List Nat} {K len : Nat → Nat} (C0 : zCx p s m c meth args cX4_giveHeads 9 wsX4_giveHeads RX4 none D cy ad L K) (N : Nat) {kh24 : Nat → Nat → Int32 → Int32 → Int64 → Int32 → ZM → Option (ZM)} {x0 : Nat} {x1 : Nat} {x2 : Int32} {x3 : Int32} {x4 : Int64} {x6 : Int32} {x7 : Int64} {M : ZM} {Mr : ZM} (hk24 : ∀ {y0 : Nat} {y1 : Nat} {y2 : Int32} {y3 : Int32} {y4 : Int64} {y6 : Int32} {M : ZM}, kh24 y0 y1 y2 y3 y4 y6 M = some Mr → ∀ {H : Heap} {locs : List Loc} {ls : Array Slot}, zWd D cy ad L K len M H → va_S (zA ad L s.heap.size) s.heap H locs → lv_has ls 9 [(0, .ref (ad y0)), (1, .ref (ad y1)), (2, .int y2), (3, .int y3), (4, .long y4), (6, .int y6)] → W p l e (headSpec wsX4_giveHeads ({ frames := 4, cells := 0, slots := 0, locals := 102 } : Room)).room s m args below meth c H locs 0 0 (MQ below (zQv D cy ad L K len Mr s.heap.size) args s 0 0 (zA ad L s.heap.size)) (F0 m 24 ls [])) (h : f_X4_giveHeads_75 N K len (f_X4_giveHeads N K len 0) kh24 x0 x1 x2 x3 x4 x6 x7 M = some Mr) {H : Heap} {locs : List Loc} {ls : Array Slot} (hW : zWd D cy ad L K len M H) (hS : va_S (zA ad L s.heap.size) s.heap H locs) (hl : lv_has ls 9 [(0, .ref (ad x0)), (1, .ref (ad x1)), (2, .int x2), (3, .int x3), (4, .long x4), (6, .int x6), (7, .long x7)]) : W p l e (headSpec wsX4_giveHeads ({ frames := 4, cells := 0, slots := 0, locals := 102 } : Room)).room s m args below meth c H locs 0 0 (MQ below (zQv D cy ad L K len Mr s.heap.size) args s 0 0 (zA ad L s.heap.size)) (F0 m 75 ls []) := by
  obtain ⟨hx, hb, hr, hml, hown, hts, hlocks, hK, hL, hE⟩ := id C0
  have hinX4 : ∀ w ∈ wsX40, w ∈ wsX4_giveHeads := by decide +kernel
  unfold f_X4_giveHeads_75 at h
  refine lv_aload_n hx hb dX4_giveHeads_75 rfl (lv_at hl 0 rfl) ?_
  obtain ⟨g1, h⟩ := zg_some h
  obtain ⟨b2, e3, h⟩ := zb_some h
  refine z_get (own := RX4) (C := RX4) (T := TX4) (N := 3) (ci := 4) hx hb hts hinX4 hown hK hL hW 1 (zK_of g1) rfl (by decide) (by decide) rfl (hts (.fieldLink RX4 15 "ArcLight$Trial" "heads" "[I") (by decide +kernel)) (v := .ref (ad b2)) (zhvR e3 rfl) dX4_giveHeads_76 ?_
  refine lv_iload_n hx hb dX4_giveHeads_79 rfl (lv_at hl 3 rfl) ?_
  refine lv_iload hx hb dX4_giveHeads_80 (lv_at hl 5 rfl) ?_
  obtain ⟨g4, h⟩ := zg_some h
  refine z_iast hx hb hK hL hW hS g4 dX4_giveHeads_82 (fun H locs hW hS => ?_)
  obtain ⟨M5, eM6, h⟩ := zl_some h
  rw [← eM6] at hW
  refine lv_aload_n hx hb dX4_giveHeads_83 rfl (lv_at hl 0 rfl) ?_
  refine lv_aload_n hx hb dX4_giveHeads_84 rfl (lv_at hl 1 rfl) ?_
  refine lv_iload_n hx hb dX4_giveHeads_85 rfl (lv_at hl 2 rfl) ?_
  refine lv_iload_n hx hb dX4_giveHeads_86 rfl (lv_at hl 3 rfl) ?_
  refine lv_iconst (v := 1) hx hb dX4_giveHeads_87 (by decide) ?_
  refine lv_iadd hx hb dX4_giveHeads_88 ?_
  refine lv_lload hx hb dX4_giveHeads_89 (lv_at hl 4 rfl) ?_
  refine lv_lload hx hb dX4_giveHeads_91 (lv_at hl 6 rfl) ?_
  refine lv_ladd hx hb dX4_giveHeads_93 ?_
  obtain ⟨M9, e8, h⟩ := zb_some h
  refine z_callv hS (va_runS (As := [.ref (ad x0), .ref (ad x1), .int x2, .int (x3 + (1 : Int32)), .long (x4 + x7)]) (rest := []) ⟨hx, hb, hml, hown, hts⟩ (m_X4_giveHeads_d0 l hL N e8 H.size) (va_cwS 5 hts gX4_giveHeads_X4_giveHeads rfl rfl rfl (by decide +kernel) ⟨Nat.le_of_ble_eq_true rfl, Nat.le_of_ble_eq_true rfl⟩) (z_preS hK hE hW hS [.ref (ad x0), .ref (ad x1), .int x2, .int (x3 + (1 : Int32)), .long (x4 + x7)]) rfl rfl hl.1 rfl (lv_room (Nat.le_of_ble_eq_true rfl)) dX4_giveHeads_94 ⟨Nat.le_of_ble_eq_true rfl, Nat.le_of_ble_eq_true rfl⟩) (fun H locs hW hS => ?_)
  exact t_X4_giveHeads_97_d1 C0 N hk24 h hW hS (lv_sub hl [0, 1, 2, 3, 4, 5] rfl)
set_option maxRecDepth 100000 in
set_option maxHeartbeats 4000000 in
theorem t_X4_giveHeads_24_d1 {p : Program} {l : Launch} {e : Env} {s : State} {m : MethodId} {args : Array Value} {below : List Frame} {meth : Method} {c : Code} {D : va_G} {cy : Nat → ClassId} {ad : Nat → Nat} {L : List Nat} {K len : Nat → Nat} (C0 : zCx p s m c meth args cX4_giveHeads 9 wsX4_giveHeads RX4 none D cy ad L K) (N : Nat) {Mr : ZM} : ∀ (n : Nat) {x0 : Nat} {x1 : Nat} {x2 : Int32} {x3 : Int32} {x4 : Int64} {x6 : Int32} {M : ZM}, f_X4_giveHeads_24 N K len (f_X4_giveHeads N K len 0) n x0 x1 x2 x3 x4 x6 M = some Mr → ∀ {H : Heap} {locs : List Loc} {ls : Array Slot}, zWd D cy ad L K len M H → va_S (zA ad L s.heap.size) s.heap H locs → lv_has ls 9 [(0, .ref (ad x0)), (1, .ref (ad x1)), (2, .int x2), (3, .int x3), (4, .long x4), (6, .int x6)] → W p l e (headSpec wsX4_giveHeads ({ frames := 4, cells := 0, slots := 0, locals := 102 } : Room)).room s m args below meth c H locs 0 0 (MQ below (zQv D cy ad L K len Mr s.heap.size) args s 0 0 (zA ad L s.heap.size)) (F0 m 24 ls []) := by
  obtain ⟨hx, hb, hr, hml, hown, hts, hlocks, hK, hL, hE⟩ := id C0
  intro n
  induction n with
  | zero =>
    intro x0 x1 x2 x3 x4 x6 M h
    cases (show (none : Option (ZM)) = some Mr from h)
  | succ n ih =>
    intro x0 x1 x2 x3 x4 x6 M h H locs ls hW hS hl
    rw [f_X4_giveHeads_24] at h
    refine lv_iload hx hb dX4_giveHeads_24 (lv_at hl 5 rfl) ?_
    refine lv_aload_n hx hb dX4_giveHeads_26 rfl (lv_at hl 1 rfl) ?_
    obtain ⟨q1, e2, h⟩ := zb_some h
    obtain ⟨g3, h⟩ := zg_some h
    refine z_calli hS (va_runV (As := []) (rest := [.int x6]) ⟨hx, hb, hml, hown, hts⟩ (m_X0_size l hL N e2 H.size) (cwV 0 hts gX4_giveHeads_X0_size rfl rfl rfl (by decide +kernel) ⟨Nat.le_of_ble_eq_true rfl, Nat.le_of_ble_eq_true rfl⟩) (z_preV (q := (RX0, TX0, 2)) hK hL hE hW hS (zK_of g3) (by decide) rfl []) rfl rfl hl.1 rfl (lv_room (Nat.le_of_ble_eq_true rfl)) dX4_giveHeads_27 ⟨Nat.le_of_ble_eq_true rfl, Nat.le_of_ble_eq_true rfl⟩) (fun H locs hW hS => ?_)
    refine lv_icmp_gt (tgt := 103) hx hb dX4_giveHeads_30 (by decide) (fun c4 => ?_) (fun c4 => ?_)
    · have h := zip c4 h
      exact z_vret hx hb hr hlocks hW hS (Option.some.inj h) dX4_giveHeads_103
    · have h := zin c4 h
      refine lv_aload_n hx hb dX4_giveHeads_33 rfl (lv_at hl 1 rfl) ?_
      refine lv_iload hx hb dX4_giveHeads_34 (lv_at hl 5 rfl) ?_
      refine lv_iload_n hx hb dX4_giveHeads_36 rfl (lv_at hl 3 rfl) ?_
      obtain ⟨q5, e6, h⟩ := zb_some h
      refine z_calll hS (va_runV (As := [.int x6, .int x3]) (rest := []) ⟨hx, hb, hml, hown, hts⟩ (m_X0_get l hL N e6 H.size) (cwV 2 hts gX4_giveHeads_X0_get rfl rfl rfl (by decide +kernel) ⟨Nat.le_of_ble_eq_true rfl, Nat.le_of_ble_eq_true rfl⟩) (z_preV (q := (RX0, TX0, 2)) hK hL hE hW hS (zK_of g3) (by decide) rfl [.int x6, .int x3]) rfl rfl hl.1 rfl (lv_room (Nat.le_of_ble_eq_true rfl)) dX4_giveHeads_37 ⟨Nat.le_of_ble_eq_true rfl, Nat.le_of_ble_eq_true rfl⟩) (fun H locs hW hS => ?_)
      refine lv_lstore (lv' := [(7, .long q5), (0, .ref (ad x0)), (1, .ref (ad x1)), (2, .int x2), (3, .int x3), (4, .long x4), (6, .int x6)]) hx hb dX4_giveHeads_40 hl (by decide) rfl (fun ls hl => ?_)
      refine lv_lload hx hb dX4_giveHeads_42 (lv_at hl 0 rfl) ?_
      refine lv_ldc2 hx hb hown (hts (.constantLong RX4 27 (-9223372036854775808)) (by decide +kernel)) dX4_giveHeads_44 ?_
      refine z_lc_eq (tgt := 97) hx hb dX4_giveHeads_47 dX4_giveHeads_48 (by decide) (fun c7 => ?_) (fun c7 => ?_)
      · have h := zip c7 h
        exact t_X4_giveHeads_97_d1 C0 N (fun h _ _ _ hW hS hl => ih h hW hS hl) h hW hS (lv_sub hl [1, 2, 3, 4, 5, 6] rfl)
      · have h := zin c7 h
        refine lv_aload_n hx hb dX4_giveHeads_51 rfl (lv_at hl 1 rfl) ?_
        refine lv_iload hx hb dX4_giveHeads_52 (lv_at hl 6 rfl) ?_
        refine lv_iload_n hx hb dX4_giveHeads_54 rfl (lv_at hl 4 rfl) ?_
        obtain ⟨q8, e9, h⟩ := zb_some h
        obtain ⟨g10, h⟩ := zg_some h
        refine z_calli hS (va_runV (As := [.int x6, .int x3]) (rest := []) ⟨hx, hb, hml, hown, hts⟩ (m_X4_closesCircle l hL N e9 H.size) (cwV 2 hts gX4_giveHeads_X4_closesCircle rfl rfl rfl (by decide +kernel) ⟨Nat.le_of_ble_eq_true rfl, Nat.le_of_ble_eq_true rfl⟩) (z_preV (q := (RX4, TX4, 3)) hK hL hE hW hS (zK_of g10) (by decide) rfl [.int x6, .int x3]) rfl rfl hl.1 rfl (lv_room (Nat.le_of_ble_eq_true rfl)) dX4_giveHeads_55 ⟨Nat.le_of_ble_eq_true rfl, Nat.le_of_ble_eq_true rfl⟩) (fun H locs hW hS => ?_)
        refine lv_if_ne (tgt := 97) hx hb dX4_giveHeads_58 (by decide) (fun c11 => ?_) (fun c11 => ?_)
        · have h := zin c11 h
          exact t_X4_giveHeads_97_d1 C0 N (fun h _ _ _ hW hS hl => ih h hW hS hl) h hW hS (lv_sub hl [1, 2, 3, 4, 5, 6] rfl)
        · have h := zip c11 h
          refine lv_iload_n hx hb dX4_giveHeads_61 rfl (lv_at hl 3 rfl) ?_
          refine lv_if_ne (tgt := 75) hx hb dX4_giveHeads_62 (by decide) (fun c12 => ?_) (fun c12 => ?_)
          · have h := zin c12 h
            exact t_X4_giveHeads_75_d1 C0 N (fun h _ _ _ hW hS hl => ih h hW hS hl) h hW hS (lv_sub hl [1, 2, 3, 4, 5, 6, 0] rfl)
          · have h := zip c12 h
            refine lv_aload_n hx hb dX4_giveHeads_65 rfl (lv_at hl 1 rfl) ?_
            refine lv_iload hx hb dX4_giveHeads_66 (lv_at hl 6 rfl) ?_
            refine lv_iload_n hx hb dX4_giveHeads_68 rfl (lv_at hl 4 rfl) ?_
            obtain ⟨q13, e14, h⟩ := zb_some h
            refine z_calli hS (va_runV (As := [.int x6, .int x3]) (rest := []) ⟨hx, hb, hml, hown, hts⟩ (m_X4_crossesEarlier l hL N e14 H.size) (cwV 2 hts gX4_giveHeads_X4_crossesEarlier rfl rfl rfl (by decide +kernel) ⟨Nat.le_of_ble_eq_true rfl, Nat.le_of_ble_eq_true rfl⟩) (z_preV (q := (RX4, TX4, 3)) hK hL hE hW hS (zK_of g10) (by decide) rfl [.int x6, .int x3]) rfl rfl hl.1 rfl (lv_room (Nat.le_of_ble_eq_true rfl)) dX4_giveHeads_69 ⟨Nat.le_of_ble_eq_true rfl, Nat.le_of_ble_eq_true rfl⟩) (fun H locs hW hS => ?_)
            refine lv_if_ne (tgt := 97) hx hb dX4_giveHeads_72 (by decide) (fun c15 => ?_) (fun c15 => ?_)
            · have h := zin c15 h
              exact t_X4_giveHeads_97_d1 C0 N (fun h _ _ _ hW hS hl => ih h hW hS hl) h hW hS (lv_sub hl [1, 2, 3, 4, 5, 6] rfl)
            · have h := zip c15 h
              exact t_X4_giveHeads_75_d1 C0 N (fun h _ _ _ hW hS hl => ih h hW hS hl) h hW hS (lv_sub hl [1, 2, 3, 4, 5, 6, 0] rfl)
set_option maxRecDepth 100000 in
set_option maxHeartbeats 4000000 in
theorem t_X4_giveHeads_14_d1 {p : Program} {l : Launch} {e : Env} {s : State} {m : MethodId} {args : Array Value} {below : List Frame} {meth : Method} {c : Code} {D : va_G} {cy : Nat → ClassId} {ad : Nat → Nat} {L : List Nat} {K len : Nat → Nat} (C0 : zCx p s m c meth args cX4_giveHeads 9 wsX4_giveHeads RX4 none D cy ad L K) (N : Nat) {x0 : Nat} {x4 : Int64} {M : ZM} {Mr : ZM} (h : f_X4_giveHeads_14 N K len (f_X4_giveHeads N K len 0) x0 x4 M = some Mr) {H : Heap} {locs : List Loc} {ls : Array Slot} (hW : zWd D cy ad L K len M H) (hS : va_S (zA ad L s.heap.size) s.heap H locs) (hl : lv_has ls 9 [(0, .ref (ad x0)), (4, .long x4)]) : W p l e (headSpec wsX4_giveHeads ({ frames := 4, cells := 0, slots := 0, locals := 102 } : Room)).room s m args below meth c H locs 0 0 (MQ below (zQv D cy ad L K len Mr s.heap.size) args s 0 0 (zA ad L s.heap.size)) (F0 m 14 ls []) := by
  obtain ⟨hx, hb, hr, hml, hown, hts, hlocks, hK, hL, hE⟩ := id C0
  unfold f_X4_giveHeads_14 at h
  refine lv_aload_n hx hb dX4_giveHeads_14 rfl (lv_at hl 0 rfl) ?_
  refine lv_lload hx hb dX4_giveHeads_15 (lv_at hl 1 rfl) ?_
  obtain ⟨M3, e2, h⟩ := zb_some h
  obtain ⟨g4, h⟩ := zg_some h
  refine z_callv hS (va_runV (As := [.long x4]) (rest := []) ⟨hx, hb, hml, hown, hts⟩ (m_X4_note l hL N e2 H.size) (cwV 1 hts gX4_giveHeads_X4_note rfl rfl rfl (by decide +kernel) ⟨Nat.le_of_ble_eq_true rfl, Nat.le_of_ble_eq_true rfl⟩) (z_preV (q := (RX4, TX4, 3)) hK hL hE hW hS (zK_of g4) (by decide) rfl [.long x4]) rfl rfl hl.1 rfl (lv_room (Nat.le_of_ble_eq_true rfl)) dX4_giveHeads_17 ⟨Nat.le_of_ble_eq_true rfl, Nat.le_of_ble_eq_true rfl⟩) (fun H locs hW hS => ?_)
  exact z_vret hx hb hr hlocks hW hS (Option.some.inj h) dX4_giveHeads_20
set_option maxRecDepth 100000 in
set_option maxHeartbeats 4000000 in
theorem t_X4_giveHeads_0_d1 {p : Program} {l : Launch} {e : Env} {s : State} {m : MethodId} {args : Array Value} {below : List Frame} {meth : Method} {c : Code} {D : va_G} {cy : Nat → ClassId} {ad : Nat → Nat} {L : List Nat} {K len : Nat → Nat} (C0 : zCx p s m c meth args cX4_giveHeads 9 wsX4_giveHeads RX4 none D cy ad L K) (N : Nat) {x0 : Nat} {x1 : Nat} {x2 : Int32} {x3 : Int32} {x4 : Int64} {M : ZM} {Mr : ZM} (h : f_X4_giveHeads_0 N K len (f_X4_giveHeads N K len 0) x0 x1 x2 x3 x4 M = some Mr) {H : Heap} {locs : List Loc} {ls : Array Slot} (hW : zWd D cy ad L K len M H) (hS : va_S (zA ad L s.heap.size) s.heap H locs) (hl : lv_has ls 9 [(0, .ref (ad x0)), (1, .ref (ad x1)), (2, .int x2), (3, .int x3), (4, .long x4)]) : W p l e (headSpec wsX4_giveHeads ({ frames := 4, cells := 0, slots := 0, locals := 102 } : Room)).room s m args below meth c H locs 0 0 (MQ below (zQv D cy ad L K len Mr s.heap.size) args s 0 0 (zA ad L s.heap.size)) (F0 m 0 ls []) := by
  obtain ⟨hx, hb, hr, hml, hown, hts, hlocks, hK, hL, hE⟩ := id C0
  unfold f_X4_giveHeads_0 at h
  refine lv_iload_n hx hb dX4_giveHeads_0 rfl (lv_at hl 3 rfl) ?_
  refine lv_aload_n hx hb dX4_giveHeads_1 rfl (lv_at hl 1 rfl) ?_
  obtain ⟨q1, e2, h⟩ := zb_some h
  obtain ⟨g3, h⟩ := zg_some h
  refine z_calli hS (va_runV (As := []) (rest := [.int x3]) ⟨hx, hb, hml, hown, hts⟩ (m_X0_size l hL N e2 H.size) (cwV 0 hts gX4_giveHeads_X0_size rfl rfl rfl (by decide +kernel) ⟨Nat.le_of_ble_eq_true rfl, Nat.le_of_ble_eq_true rfl⟩) (z_preV (q := (RX0, TX0, 2)) hK hL hE hW hS (zK_of g3) (by decide) rfl []) rfl rfl hl.1 rfl (lv_room (Nat.le_of_ble_eq_true rfl)) dX4_giveHeads_2 ⟨Nat.le_of_ble_eq_true rfl, Nat.le_of_ble_eq_true rfl⟩) (fun H locs hW hS => ?_)
  refine lv_icmp_gt (tgt := 14) hx hb dX4_giveHeads_5 (by decide) (fun c4 => ?_) (fun c4 => ?_)
  · have h := zip c4 h
    exact t_X4_giveHeads_14_d1 C0 N  h hW hS (lv_sub hl [0, 4] rfl)
  · have h := zin c4 h
    refine lv_iload_n hx hb dX4_giveHeads_8 rfl (lv_at hl 3 rfl) ?_
    refine lv_bipush (v := 6) hx hb dX4_giveHeads_9 (by decide) ?_
    refine lv_icmp_le (tgt := 21) hx hb dX4_giveHeads_11 (by decide) (fun c5 => ?_) (fun c5 => ?_)
    · have h := zip c5 h
      refine lv_iconst (v := 0) hx hb dX4_giveHeads_21 (by decide) ?_
      refine lv_istore (lv' := [(6, .int (0 : Int32)), (0, .ref (ad x0)), (1, .ref (ad x1)), (2, .int x2), (3, .int x3), (4, .long x4)]) hx hb dX4_giveHeads_22 hl (by decide) rfl (fun ls hl => ?_)
      exact t_X4_giveHeads_24_d1 C0 N  N h hW hS (lv_sub hl [1, 2, 3, 4, 5, 0] rfl)
    · have h := zin c5 h
      exact t_X4_giveHeads_14_d1 C0 N  h hW hS (lv_sub hl [0, 4] rfl)
set_option maxRecDepth 100000 in
set_option maxHeartbeats 4000000 in
theorem m_X4_giveHeads_d1 (l : Launch) {D : va_G} {cy : Nat → ClassId} {ad : Nat → Nat} {L : List Nat} {K len : Nat → Nat} (hL : zSh ad L K) (N : Nat) {a0 : Nat} {a1 : Nat} {a2 : Int32} {a3 : Int32} {a4 : Int64} {M Mr : ZM} (h : f_X4_giveHeads N K len 1 a0 a1 a2 a3 a4 M = some Mr) (sz : Nat) : Met l yX4_giveHeads wsX4_giveHeads ({ frames := 4, cells := 0, slots := 0, locals := 102 } : Room) (zPre D cy ad L K len sz [.ref (ad a0), .ref (ad a1), .int a2, .int a3, .long a4] M) (zQv D cy ad L K len Mr sz) 0 0 (zA ad L sz) :=
  z_entry (Qf := fun sz => zQv D cy ad L K len Mr sz) (av := [.ref (ad a0), .ref (ad a1), .int a2, .int a3, .long a4]) (by decide) rfl rfl hL (Nat.le_of_ble_eq_true rfl) (fun p e s m args below meth c C0 H locs ls hW hS hl => t_X4_giveHeads_0_d1 C0 N h hW hS (lv_sub hl [0, 1, 2, 3, 4] rfl))
set_option maxRecDepth 100000 in
set_option maxHeartbeats 4000000 in
theorem t_X4_giveHeads_97_d2 {p : Program} {l : Launch} {e : Env} {s : State} {m : MethodId} {args : Array Value} {below : List Frame} {meth : Method} {c : Code} {D : va_G} {cy : Nat → ClassId} {ad : Nat → Nat} {L : List Nat} {K len : Nat → Nat} (C0 : zCx p s m c meth args cX4_giveHeads 9 wsX4_giveHeads RX4 none D cy ad L K) (N : Nat) {kh24 : Nat → Nat → Int32 → Int32 → Int64 → Int32 → ZM → Option (ZM)} {x0 : Nat} {x1 : Nat} {x2 : Int32} {x3 : Int32} {x4 : Int64} {x6 : Int32} {M : ZM} {Mr : ZM} (hk24 : ∀ {y0 : Nat} {y1 : Nat} {y2 : Int32} {y3 : Int32} {y4 : Int64} {y6 : Int32} {M : ZM}, kh24 y0 y1 y2 y3 y4 y6 M = some Mr → ∀ {H : Heap} {locs : List Loc} {ls : Array Slot}, zWd D cy ad L K len M H → va_S (zA ad L s.heap.size) s.heap H locs → lv_has ls 9 [(0, .ref (ad y0)), (1, .ref (ad y1)), (2, .int y2), (3, .int y3), (4, .long y4), (6, .int y6)] → W p l e (headSpec wsX4_giveHeads ({ frames := 5, cells := 0, slots := 0, locals := 130 } : Room)).room s m args below meth c H locs 0 0 (MQ below (zQv D cy ad L K len Mr s.heap.size) args s 0 0 (zA ad L s.heap.size)) (F0 m 24 ls [])) (h : f_X4_giveHeads_97 N K len (f_X4_giveHeads N K len 1) kh24 x0 x1 x2 x3 x4 x6 M = some Mr) {H : Heap} {locs : List Loc} {ls : Array Slot} (hW : zWd D cy ad L K len M H) (hS : va_S (zA ad L s.heap.size) s.heap H locs) (hl : lv_has ls 9 [(0, .ref (ad x0)), (1, .ref (ad x1)), (2, .int x2), (3, .int x3), (4, .long x4), (6, .int x6)]) : W p l e (headSpec wsX4_giveHeads ({ frames := 5, cells := 0, slots := 0, locals := 130 } : Room)).room s m args below meth c H locs 0 0 (MQ below (zQv D cy ad L K len Mr s.heap.size) args s 0 0 (zA ad L s.heap.size)) (F0 m 97 ls []) := by
  obtain ⟨hx, hb, hr, hml, hown, hts, hlocks, hK, hL, hE⟩ := id C0
  unfold f_X4_giveHeads_97 at h
  refine lv_iinc (k := 5) (v := (x6 + 1)) (lv' := [(6, .int (x6 + 1)), (0, .ref (ad x0)), (1, .ref (ad x1)), (2, .int x2), (3, .int x3), (4, .long x4)]) hx hb dX4_giveHeads_97 hl rfl (by rw [show Int32.ofInt 1 = (1 : Int32) from by decide]) (by decide) rfl (fun ls hl => ?_)
  refine lv_goto (tgt := 24) hx hb dX4_giveHeads_100 (by decide) ?_
  exact hk24 h hW hS (lv_sub hl [1, 2, 3, 4, 5, 0] rfl)
set_option maxRecDepth 100000 in
set_option maxHeartbeats 4000000 in
theorem t_X4_giveHeads_75_d2 {p : Program} {l : Launch} {e : Env} {s : State} {m : MethodId} {args : Array Value} {below : List Frame} {meth : Method} {c : Code} {D : va_G} {cy : Nat → ClassId} {ad : Nat → Nat} {L : List Nat} {K len : Nat → Nat} (C0 : zCx p s m c meth args cX4_giveHeads 9 wsX4_giveHeads RX4 none D cy ad L K) (N : Nat) {kh24 : Nat → Nat → Int32 → Int32 → Int64 → Int32 → ZM → Option (ZM)} {x0 : Nat} {x1 : Nat} {x2 : Int32} {x3 : Int32} {x4 : Int64} {x6 : Int32} {x7 : Int64} {M : ZM} {Mr : ZM} (hk24 : ∀ {y0 : Nat} {y1 : Nat} {y2 : Int32} {y3 : Int32} {y4 : Int64} {y6 : Int32} {M : ZM}, kh24 y0 y1 y2 y3 y4 y6 M = some Mr → ∀ {H : Heap} {locs : List Loc} {ls : Array Slot}, zWd D cy ad L K len M H → va_S (zA ad L s.heap.size) s.heap H locs → lv_has ls 9 [(0, .ref (ad y0)), (1, .ref (ad y1)), (2, .int y2), (3, .int y3), (4, .long y4), (6, .int y6)] → W p l e (headSpec wsX4_giveHeads ({ frames := 5, cells := 0, slots := 0, locals := 130 } : Room)).room s m args below meth c H locs 0 0 (MQ below (zQv D cy ad L K len Mr s.heap.size) args s 0 0 (zA ad L s.heap.size)) (F0 m 24 ls [])) (h : f_X4_giveHeads_75 N K len (f_X4_giveHeads N K len 1) kh24 x0 x1 x2 x3 x4 x6 x7 M = some Mr) {H : Heap} {locs : List Loc} {ls : Array Slot} (hW : zWd D cy ad L K len M H) (hS : va_S (zA ad L s.heap.size) s.heap H locs) (hl : lv_has ls 9 [(0, .ref (ad x0)), (1, .ref (ad x1)), (2, .int x2), (3, .int x3), (4, .long x4), (6, .int x6), (7, .long x7)]) : W p l e (headSpec wsX4_giveHeads ({ frames := 5, cells := 0, slots := 0, locals := 130 } : Room)).room s m args below meth c H locs 0 0 (MQ below (zQv D cy ad L K len Mr s.heap.size) args s 0 0 (zA ad L s.heap.size)) (F0 m 75 ls []) := by
  obtain ⟨hx, hb, hr, hml, hown, hts, hlocks, hK, hL, hE⟩ := id C0
  have hinX4 : ∀ w ∈ wsX40, w ∈ wsX4_giveHeads := by decide +kernel
  unfold f_X4_giveHeads_75 at h
  refine lv_aload_n hx hb dX4_giveHeads_75 rfl (lv_at hl 0 rfl) ?_
  obtain ⟨g1, h⟩ := zg_some h
  obtain ⟨b2, e3, h⟩ := zb_some h
  refine z_get (own := RX4) (C := RX4) (T := TX4) (N := 3) (ci := 4) hx hb hts hinX4 hown hK hL hW 1 (zK_of g1) rfl (by decide) (by decide) rfl (hts (.fieldLink RX4 15 "ArcLight$Trial" "heads" "[I") (by decide +kernel)) (v := .ref (ad b2)) (zhvR e3 rfl) dX4_giveHeads_76 ?_
  refine lv_iload_n hx hb dX4_giveHeads_79 rfl (lv_at hl 3 rfl) ?_
  refine lv_iload hx hb dX4_giveHeads_80 (lv_at hl 5 rfl) ?_
  obtain ⟨g4, h⟩ := zg_some h
  refine z_iast hx hb hK hL hW hS g4 dX4_giveHeads_82 (fun H locs hW hS => ?_)
  obtain ⟨M5, eM6, h⟩ := zl_some h
  rw [← eM6] at hW
  refine lv_aload_n hx hb dX4_giveHeads_83 rfl (lv_at hl 0 rfl) ?_
  refine lv_aload_n hx hb dX4_giveHeads_84 rfl (lv_at hl 1 rfl) ?_
  refine lv_iload_n hx hb dX4_giveHeads_85 rfl (lv_at hl 2 rfl) ?_
  refine lv_iload_n hx hb dX4_giveHeads_86 rfl (lv_at hl 3 rfl) ?_
  refine lv_iconst (v := 1) hx hb dX4_giveHeads_87 (by decide) ?_
  refine lv_iadd hx hb dX4_giveHeads_88 ?_
  refine lv_lload hx hb dX4_giveHeads_89 (lv_at hl 4 rfl) ?_
  refine lv_lload hx hb dX4_giveHeads_91 (lv_at hl 6 rfl) ?_
  refine lv_ladd hx hb dX4_giveHeads_93 ?_
  obtain ⟨M9, e8, h⟩ := zb_some h
  refine z_callv hS (va_runS (As := [.ref (ad x0), .ref (ad x1), .int x2, .int (x3 + (1 : Int32)), .long (x4 + x7)]) (rest := []) ⟨hx, hb, hml, hown, hts⟩ (m_X4_giveHeads_d1 l hL N e8 H.size) (va_cwS 5 hts gX4_giveHeads_X4_giveHeads rfl rfl rfl (by decide +kernel) ⟨Nat.le_of_ble_eq_true rfl, Nat.le_of_ble_eq_true rfl⟩) (z_preS hK hE hW hS [.ref (ad x0), .ref (ad x1), .int x2, .int (x3 + (1 : Int32)), .long (x4 + x7)]) rfl rfl hl.1 rfl (lv_room (Nat.le_of_ble_eq_true rfl)) dX4_giveHeads_94 ⟨Nat.le_of_ble_eq_true rfl, Nat.le_of_ble_eq_true rfl⟩) (fun H locs hW hS => ?_)
  exact t_X4_giveHeads_97_d2 C0 N hk24 h hW hS (lv_sub hl [0, 1, 2, 3, 4, 5] rfl)
set_option maxRecDepth 100000 in
set_option maxHeartbeats 4000000 in
theorem t_X4_giveHeads_24_d2 {p : Program} {l : Launch} {e : Env} {s : State} {m : MethodId} {args : Array Value} {below : List Frame} {meth : Method} {c : Code} {D : va_G} {cy : Nat → ClassId} {ad : Nat → Nat} {L : List Nat} {K len : Nat → Nat} (C0 : zCx p s m c meth args cX4_giveHeads 9 wsX4_giveHeads RX4 none D cy ad L K) (N : Nat) {Mr : ZM} : ∀ (n : Nat) {x0 : Nat} {x1 : Nat} {x2 : Int32} {x3 : Int32} {x4 : Int64} {x6 : Int32} {M : ZM}, f_X4_giveHeads_24 N K len (f_X4_giveHeads N K len 1) n x0 x1 x2 x3 x4 x6 M = some Mr → ∀ {H : Heap} {locs : List Loc} {ls : Array Slot}, zWd D cy ad L K len M H → va_S (zA ad L s.heap.size) s.heap H locs → lv_has ls 9 [(0, .ref (ad x0)), (1, .ref (ad x1)), (2, .int x2), (3, .int x3), (4, .long x4), (6, .int x6)] → W p l e (headSpec wsX4_giveHeads ({ frames := 5, cells := 0, slots := 0, locals := 130 } : Room)).room s m args below meth c H locs 0 0 (MQ below (zQv D cy ad L K len Mr s.heap.size) args s 0 0 (zA ad L s.heap.size)) (F0 m 24 ls []) := by
  obtain ⟨hx, hb, hr, hml, hown, hts, hlocks, hK, hL, hE⟩ := id C0
  intro n
  induction n with
  | zero =>
    intro x0 x1 x2 x3 x4 x6 M h
    cases (show (none : Option (ZM)) = some Mr from h)
  | succ n ih =>
    intro x0 x1 x2 x3 x4 x6 M h H locs ls hW hS hl
    rw [f_X4_giveHeads_24] at h
    refine lv_iload hx hb dX4_giveHeads_24 (lv_at hl 5 rfl) ?_
    refine lv_aload_n hx hb dX4_giveHeads_26 rfl (lv_at hl 1 rfl) ?_
    obtain ⟨q1, e2, h⟩ := zb_some h
    obtain ⟨g3, h⟩ := zg_some h
    refine z_calli hS (va_runV (As := []) (rest := [.int x6]) ⟨hx, hb, hml, hown, hts⟩ (m_X0_size l hL N e2 H.size) (cwV 0 hts gX4_giveHeads_X0_size rfl rfl rfl (by decide +kernel) ⟨Nat.le_of_ble_eq_true rfl, Nat.le_of_ble_eq_true rfl⟩) (z_preV (q := (RX0, TX0, 2)) hK hL hE hW hS (zK_of g3) (by decide) rfl []) rfl rfl hl.1 rfl (lv_room (Nat.le_of_ble_eq_true rfl)) dX4_giveHeads_27 ⟨Nat.le_of_ble_eq_true rfl, Nat.le_of_ble_eq_true rfl⟩) (fun H locs hW hS => ?_)
    refine lv_icmp_gt (tgt := 103) hx hb dX4_giveHeads_30 (by decide) (fun c4 => ?_) (fun c4 => ?_)
    · have h := zip c4 h
      exact z_vret hx hb hr hlocks hW hS (Option.some.inj h) dX4_giveHeads_103
    · have h := zin c4 h
      refine lv_aload_n hx hb dX4_giveHeads_33 rfl (lv_at hl 1 rfl) ?_
      refine lv_iload hx hb dX4_giveHeads_34 (lv_at hl 5 rfl) ?_
      refine lv_iload_n hx hb dX4_giveHeads_36 rfl (lv_at hl 3 rfl) ?_
      obtain ⟨q5, e6, h⟩ := zb_some h
      refine z_calll hS (va_runV (As := [.int x6, .int x3]) (rest := []) ⟨hx, hb, hml, hown, hts⟩ (m_X0_get l hL N e6 H.size) (cwV 2 hts gX4_giveHeads_X0_get rfl rfl rfl (by decide +kernel) ⟨Nat.le_of_ble_eq_true rfl, Nat.le_of_ble_eq_true rfl⟩) (z_preV (q := (RX0, TX0, 2)) hK hL hE hW hS (zK_of g3) (by decide) rfl [.int x6, .int x3]) rfl rfl hl.1 rfl (lv_room (Nat.le_of_ble_eq_true rfl)) dX4_giveHeads_37 ⟨Nat.le_of_ble_eq_true rfl, Nat.le_of_ble_eq_true rfl⟩) (fun H locs hW hS => ?_)
      refine lv_lstore (lv' := [(7, .long q5), (0, .ref (ad x0)), (1, .ref (ad x1)), (2, .int x2), (3, .int x3), (4, .long x4), (6, .int x6)]) hx hb dX4_giveHeads_40 hl (by decide) rfl (fun ls hl => ?_)
      refine lv_lload hx hb dX4_giveHeads_42 (lv_at hl 0 rfl) ?_
      refine lv_ldc2 hx hb hown (hts (.constantLong RX4 27 (-9223372036854775808)) (by decide +kernel)) dX4_giveHeads_44 ?_
      refine z_lc_eq (tgt := 97) hx hb dX4_giveHeads_47 dX4_giveHeads_48 (by decide) (fun c7 => ?_) (fun c7 => ?_)
      · have h := zip c7 h
        exact t_X4_giveHeads_97_d2 C0 N (fun h _ _ _ hW hS hl => ih h hW hS hl) h hW hS (lv_sub hl [1, 2, 3, 4, 5, 6] rfl)
      · have h := zin c7 h
        refine lv_aload_n hx hb dX4_giveHeads_51 rfl (lv_at hl 1 rfl) ?_
        refine lv_iload hx hb dX4_giveHeads_52 (lv_at hl 6 rfl) ?_
        refine lv_iload_n hx hb dX4_giveHeads_54 rfl (lv_at hl 4 rfl) ?_
        obtain ⟨q8, e9, h⟩ := zb_some h
        obtain ⟨g10, h⟩ := zg_some h
        refine z_calli hS (va_runV (As := [.int x6, .int x3]) (rest := []) ⟨hx, hb, hml, hown, hts⟩ (m_X4_closesCircle l hL N e9 H.size) (cwV 2 hts gX4_giveHeads_X4_closesCircle rfl rfl rfl (by decide +kernel) ⟨Nat.le_of_ble_eq_true rfl, Nat.le_of_ble_eq_true rfl⟩) (z_preV (q := (RX4, TX4, 3)) hK hL hE hW hS (zK_of g10) (by decide) rfl [.int x6, .int x3]) rfl rfl hl.1 rfl (lv_room (Nat.le_of_ble_eq_true rfl)) dX4_giveHeads_55 ⟨Nat.le_of_ble_eq_true rfl, Nat.le_of_ble_eq_true rfl⟩) (fun H locs hW hS => ?_)
        refine lv_if_ne (tgt := 97) hx hb dX4_giveHeads_58 (by decide) (fun c11 => ?_) (fun c11 => ?_)
        · have h := zin c11 h
          exact t_X4_giveHeads_97_d2 C0 N (fun h _ _ _ hW hS hl => ih h hW hS hl) h hW hS (lv_sub hl [1, 2, 3, 4, 5, 6] rfl)
        · have h := zip c11 h
          refine lv_iload_n hx hb dX4_giveHeads_61 rfl (lv_at hl 3 rfl) ?_
          refine lv_if_ne (tgt := 75) hx hb dX4_giveHeads_62 (by decide) (fun c12 => ?_) (fun c12 => ?_)
          · have h := zin c12 h
            exact t_X4_giveHeads_75_d2 C0 N (fun h _ _ _ hW hS hl => ih h hW hS hl) h hW hS (lv_sub hl [1, 2, 3, 4, 5, 6, 0] rfl)
          · have h := zip c12 h
            refine lv_aload_n hx hb dX4_giveHeads_65 rfl (lv_at hl 1 rfl) ?_
            refine lv_iload hx hb dX4_giveHeads_66 (lv_at hl 6 rfl) ?_
            refine lv_iload_n hx hb dX4_giveHeads_68 rfl (lv_at hl 4 rfl) ?_
            obtain ⟨q13, e14, h⟩ := zb_some h
            refine z_calli hS (va_runV (As := [.int x6, .int x3]) (rest := []) ⟨hx, hb, hml, hown, hts⟩ (m_X4_crossesEarlier l hL N e14 H.size) (cwV 2 hts gX4_giveHeads_X4_crossesEarlier rfl rfl rfl (by decide +kernel) ⟨Nat.le_of_ble_eq_true rfl, Nat.le_of_ble_eq_true rfl⟩) (z_preV (q := (RX4, TX4, 3)) hK hL hE hW hS (zK_of g10) (by decide) rfl [.int x6, .int x3]) rfl rfl hl.1 rfl (lv_room (Nat.le_of_ble_eq_true rfl)) dX4_giveHeads_69 ⟨Nat.le_of_ble_eq_true rfl, Nat.le_of_ble_eq_true rfl⟩) (fun H locs hW hS => ?_)
            refine lv_if_ne (tgt := 97) hx hb dX4_giveHeads_72 (by decide) (fun c15 => ?_) (fun c15 => ?_)
            · have h := zin c15 h
              exact t_X4_giveHeads_97_d2 C0 N (fun h _ _ _ hW hS hl => ih h hW hS hl) h hW hS (lv_sub hl [1, 2, 3, 4, 5, 6] rfl)
            · have h := zip c15 h
              exact t_X4_giveHeads_75_d2 C0 N (fun h _ _ _ hW hS hl => ih h hW hS hl) h hW hS (lv_sub hl [1, 2, 3, 4, 5, 6, 0] rfl)
set_option maxRecDepth 100000 in
set_option maxHeartbeats 4000000 in
theorem t_X4_giveHeads_14_d2 {p : Program} {l : Launch} {e : Env} {s : State} {m : MethodId} {args : Array Value} {below : List Frame} {meth : Method} {c : Code} {D : va_G} {cy : Nat → ClassId} {ad : Nat → Nat} {L : List Nat} {K len : Nat → Nat} (C0 : zCx p s m c meth args cX4_giveHeads 9 wsX4_giveHeads RX4 none D cy ad L K) (N : Nat) {x0 : Nat} {x4 : Int64} {M : ZM} {Mr : ZM} (h : f_X4_giveHeads_14 N K len (f_X4_giveHeads N K len 1) x0 x4 M = some Mr) {H : Heap} {locs : List Loc} {ls : Array Slot} (hW : zWd D cy ad L K len M H) (hS : va_S (zA ad L s.heap.size) s.heap H locs) (hl : lv_has ls 9 [(0, .ref (ad x0)), (4, .long x4)]) : W p l e (headSpec wsX4_giveHeads ({ frames := 5, cells := 0, slots := 0, locals := 130 } : Room)).room s m args below meth c H locs 0 0 (MQ below (zQv D cy ad L K len Mr s.heap.size) args s 0 0 (zA ad L s.heap.size)) (F0 m 14 ls []) := by
  obtain ⟨hx, hb, hr, hml, hown, hts, hlocks, hK, hL, hE⟩ := id C0
  unfold f_X4_giveHeads_14 at h
  refine lv_aload_n hx hb dX4_giveHeads_14 rfl (lv_at hl 0 rfl) ?_
  refine lv_lload hx hb dX4_giveHeads_15 (lv_at hl 1 rfl) ?_
  obtain ⟨M3, e2, h⟩ := zb_some h
  obtain ⟨g4, h⟩ := zg_some h
  refine z_callv hS (va_runV (As := [.long x4]) (rest := []) ⟨hx, hb, hml, hown, hts⟩ (m_X4_note l hL N e2 H.size) (cwV 1 hts gX4_giveHeads_X4_note rfl rfl rfl (by decide +kernel) ⟨Nat.le_of_ble_eq_true rfl, Nat.le_of_ble_eq_true rfl⟩) (z_preV (q := (RX4, TX4, 3)) hK hL hE hW hS (zK_of g4) (by decide) rfl [.long x4]) rfl rfl hl.1 rfl (lv_room (Nat.le_of_ble_eq_true rfl)) dX4_giveHeads_17 ⟨Nat.le_of_ble_eq_true rfl, Nat.le_of_ble_eq_true rfl⟩) (fun H locs hW hS => ?_)
  exact z_vret hx hb hr hlocks hW hS (Option.some.inj h) dX4_giveHeads_20
set_option maxRecDepth 100000 in
set_option maxHeartbeats 4000000 in
theorem t_X4_giveHeads_0_d2 {p : Program} {l : Launch} {e : Env} {s : State} {m : MethodId} {args : Array Value} {below : List Frame} {meth : Method} {c : Code} {D : va_G} {cy : Nat → ClassId} {ad : Nat → Nat} {L : List Nat} {K len : Nat → Nat} (C0 : zCx p s m c meth args cX4_giveHeads 9 wsX4_giveHeads RX4 none D cy ad L K) (N : Nat) {x0 : Nat} {x1 : Nat} {x2 : Int32} {x3 : Int32} {x4 : Int64} {M : ZM} {Mr : ZM} (h : f_X4_giveHeads_0 N K len (f_X4_giveHeads N K len 1) x0 x1 x2 x3 x4 M = some Mr) {H : Heap} {locs : List Loc} {ls : Array Slot} (hW : zWd D cy ad L K len M H) (hS : va_S (zA ad L s.heap.size) s.heap H locs) (hl : lv_has ls 9 [(0, .ref (ad x0)), (1, .ref (ad x1)), (2, .int x2), (3, .int x3), (4, .long x4)]) : W p l e (headSpec wsX4_giveHeads ({ frames := 5, cells := 0, slots := 0, locals := 130 } : Room)).room s m args below meth c H locs 0 0 (MQ below (zQv D cy ad L K len Mr s.heap.size) args s 0 0 (zA ad L s.heap.size)) (F0 m 0 ls []) := by
  obtain ⟨hx, hb, hr, hml, hown, hts, hlocks, hK, hL, hE⟩ := id C0
  unfold f_X4_giveHeads_0 at h
  refine lv_iload_n hx hb dX4_giveHeads_0 rfl (lv_at hl 3 rfl) ?_
  refine lv_aload_n hx hb dX4_giveHeads_1 rfl (lv_at hl 1 rfl) ?_
  obtain ⟨q1, e2, h⟩ := zb_some h
  obtain ⟨g3, h⟩ := zg_some h
  refine z_calli hS (va_runV (As := []) (rest := [.int x3]) ⟨hx, hb, hml, hown, hts⟩ (m_X0_size l hL N e2 H.size) (cwV 0 hts gX4_giveHeads_X0_size rfl rfl rfl (by decide +kernel) ⟨Nat.le_of_ble_eq_true rfl, Nat.le_of_ble_eq_true rfl⟩) (z_preV (q := (RX0, TX0, 2)) hK hL hE hW hS (zK_of g3) (by decide) rfl []) rfl rfl hl.1 rfl (lv_room (Nat.le_of_ble_eq_true rfl)) dX4_giveHeads_2 ⟨Nat.le_of_ble_eq_true rfl, Nat.le_of_ble_eq_true rfl⟩) (fun H locs hW hS => ?_)
  refine lv_icmp_gt (tgt := 14) hx hb dX4_giveHeads_5 (by decide) (fun c4 => ?_) (fun c4 => ?_)
  · have h := zip c4 h
    exact t_X4_giveHeads_14_d2 C0 N  h hW hS (lv_sub hl [0, 4] rfl)
  · have h := zin c4 h
    refine lv_iload_n hx hb dX4_giveHeads_8 rfl (lv_at hl 3 rfl) ?_
    refine lv_bipush (v := 6) hx hb dX4_giveHeads_9 (by decide) ?_
    refine lv_icmp_le (tgt := 21) hx hb dX4_giveHeads_11 (by decide) (fun c5 => ?_) (fun c5 => ?_)
    · have h := zip c5 h
      refine lv_iconst (v := 0) hx hb dX4_giveHeads_21 (by decide) ?_
      refine lv_istore (lv' := [(6, .int (0 : Int32)), (0, .ref (ad x0)), (1, .ref (ad x1)), (2, .int x2), (3, .int x3), (4, .long x4)]) hx hb dX4_giveHeads_22 hl (by decide) rfl (fun ls hl => ?_)
      exact t_X4_giveHeads_24_d2 C0 N  N h hW hS (lv_sub hl [1, 2, 3, 4, 5, 0] rfl)
    · have h := zin c5 h
      exact t_X4_giveHeads_14_d2 C0 N  h hW hS (lv_sub hl [0, 4] rfl)
set_option maxRecDepth 100000 in
set_option maxHeartbeats 4000000 in
theorem m_X4_giveHeads_d2 (l : Launch) {D : va_G} {cy : Nat → ClassId} {ad : Nat → Nat} {L : List Nat} {K len : Nat → Nat} (hL : zSh ad L K) (N : Nat) {a0 : Nat} {a1 : Nat} {a2 : Int32} {a3 : Int32} {a4 : Int64} {M Mr : ZM} (h : f_X4_giveHeads N K len 2 a0 a1 a2 a3 a4 M = some Mr) (sz : Nat) : Met l yX4_giveHeads wsX4_giveHeads ({ frames := 5, cells := 0, slots := 0, locals := 130 } : Room) (zPre D cy ad L K len sz [.ref (ad a0), .ref (ad a1), .int a2, .int a3, .long a4] M) (zQv D cy ad L K len Mr sz) 0 0 (zA ad L sz) :=
  z_entry (Qf := fun sz => zQv D cy ad L K len Mr sz) (av := [.ref (ad a0), .ref (ad a1), .int a2, .int a3, .long a4]) (by decide) rfl rfl hL (Nat.le_of_ble_eq_true rfl) (fun p e s m args below meth c C0 H locs ls hW hS hl => t_X4_giveHeads_0_d2 C0 N h hW hS (lv_sub hl [0, 1, 2, 3, 4] rfl))
set_option maxRecDepth 100000 in
set_option maxHeartbeats 4000000 in
theorem t_X4_giveHeads_97_d3 {p : Program} {l : Launch} {e : Env} {s : State} {m : MethodId} {args : Array Value} {below : List Frame} {meth : Method} {c : Code} {D : va_G} {cy : Nat → ClassId} {ad : Nat → Nat} {L : List Nat} {K len : Nat → Nat} (C0 : zCx p s m c meth args cX4_giveHeads 9 wsX4_giveHeads RX4 none D cy ad L K) (N : Nat) {kh24 : Nat → Nat → Int32 → Int32 → Int64 → Int32 → ZM → Option (ZM)} {x0 : Nat} {x1 : Nat} {x2 : Int32} {x3 : Int32} {x4 : Int64} {x6 : Int32} {M : ZM} {Mr : ZM} (hk24 : ∀ {y0 : Nat} {y1 : Nat} {y2 : Int32} {y3 : Int32} {y4 : Int64} {y6 : Int32} {M : ZM}, kh24 y0 y1 y2 y3 y4 y6 M = some Mr → ∀ {H : Heap} {locs : List Loc} {ls : Array Slot}, zWd D cy ad L K len M H → va_S (zA ad L s.heap.size) s.heap H locs → lv_has ls 9 [(0, .ref (ad y0)), (1, .ref (ad y1)), (2, .int y2), (3, .int y3), (4, .long y4), (6, .int y6)] → W p l e (headSpec wsX4_giveHeads ({ frames := 6, cells := 0, slots := 0, locals := 158 } : Room)).room s m args below meth c H locs 0 0 (MQ below (zQv D cy ad L K len Mr s.heap.size) args s 0 0 (zA ad L s.heap.size)) (F0 m 24 ls [])) (h : f_X4_giveHeads_97 N K len (f_X4_giveHeads N K len 2) kh24 x0 x1 x2 x3 x4 x6 M = some Mr) {H : Heap} {locs : List Loc} {ls : Array Slot} (hW : zWd D cy ad L K len M H) (hS : va_S (zA ad L s.heap.size) s.heap H locs) (hl : lv_has ls 9 [(0, .ref (ad x0)), (1, .ref (ad x1)), (2, .int x2), (3, .int x3), (4, .long x4), (6, .int x6)]) : W p l e (headSpec wsX4_giveHeads ({ frames := 6, cells := 0, slots := 0, locals := 158 } : Room)).room s m args below meth c H locs 0 0 (MQ below (zQv D cy ad L K len Mr s.heap.size) args s 0 0 (zA ad L s.heap.size)) (F0 m 97 ls []) := by
  obtain ⟨hx, hb, hr, hml, hown, hts, hlocks, hK, hL, hE⟩ := id C0
  unfold f_X4_giveHeads_97 at h
  refine lv_iinc (k := 5) (v := (x6 + 1)) (lv' := [(6, .int (x6 + 1)), (0, .ref (ad x0)), (1, .ref (ad x1)), (2, .int x2), (3, .int x3), (4, .long x4)]) hx hb dX4_giveHeads_97 hl rfl (by rw [show Int32.ofInt 1 = (1 : Int32) from by decide]) (by decide) rfl (fun ls hl => ?_)
  refine lv_goto (tgt := 24) hx hb dX4_giveHeads_100 (by decide) ?_
  exact hk24 h hW hS (lv_sub hl [1, 2, 3, 4, 5, 0] rfl)
set_option maxRecDepth 100000 in
set_option maxHeartbeats 4000000 in
theorem t_X4_giveHeads_75_d3 {p : Program} {l : Launch} {e : Env} {s : State} {m : MethodId} {args : Array Value} {below : List Frame} {meth : Method} {c : Code} {D : va_G} {cy : Nat → ClassId} {ad : Nat → Nat} {L : List Nat} {K len : Nat → Nat} (C0 : zCx p s m c meth args cX4_giveHeads 9 wsX4_giveHeads RX4 none D cy ad L K) (N : Nat) {kh24 : Nat → Nat → Int32 → Int32 → Int64 → Int32 → ZM → Option (ZM)} {x0 : Nat} {x1 : Nat} {x2 : Int32} {x3 : Int32} {x4 : Int64} {x6 : Int32} {x7 : Int64} {M : ZM} {Mr : ZM} (hk24 : ∀ {y0 : Nat} {y1 : Nat} {y2 : Int32} {y3 : Int32} {y4 : Int64} {y6 : Int32} {M : ZM}, kh24 y0 y1 y2 y3 y4 y6 M = some Mr → ∀ {H : Heap} {locs : List Loc} {ls : Array Slot}, zWd D cy ad L K len M H → va_S (zA ad L s.heap.size) s.heap H locs → lv_has ls 9 [(0, .ref (ad y0)), (1, .ref (ad y1)), (2, .int y2), (3, .int y3), (4, .long y4), (6, .int y6)] → W p l e (headSpec wsX4_giveHeads ({ frames := 6, cells := 0, slots := 0, locals := 158 } : Room)).room s m args below meth c H locs 0 0 (MQ below (zQv D cy ad L K len Mr s.heap.size) args s 0 0 (zA ad L s.heap.size)) (F0 m 24 ls [])) (h : f_X4_giveHeads_75 N K len (f_X4_giveHeads N K len 2) kh24 x0 x1 x2 x3 x4 x6 x7 M = some Mr) {H : Heap} {locs : List Loc} {ls : Array Slot} (hW : zWd D cy ad L K len M H) (hS : va_S (zA ad L s.heap.size) s.heap H locs) (hl : lv_has ls 9 [(0, .ref (ad x0)), (1, .ref (ad x1)), (2, .int x2), (3, .int x3), (4, .long x4), (6, .int x6), (7, .long x7)]) : W p l e (headSpec wsX4_giveHeads ({ frames := 6, cells := 0, slots := 0, locals := 158 } : Room)).room s m args below meth c H locs 0 0 (MQ below (zQv D cy ad L K len Mr s.heap.size) args s 0 0 (zA ad L s.heap.size)) (F0 m 75 ls []) := by
  obtain ⟨hx, hb, hr, hml, hown, hts, hlocks, hK, hL, hE⟩ := id C0
  have hinX4 : ∀ w ∈ wsX40, w ∈ wsX4_giveHeads := by decide +kernel
  unfold f_X4_giveHeads_75 at h
  refine lv_aload_n hx hb dX4_giveHeads_75 rfl (lv_at hl 0 rfl) ?_
  obtain ⟨g1, h⟩ := zg_some h
  obtain ⟨b2, e3, h⟩ := zb_some h
  refine z_get (own := RX4) (C := RX4) (T := TX4) (N := 3) (ci := 4) hx hb hts hinX4 hown hK hL hW 1 (zK_of g1) rfl (by decide) (by decide) rfl (hts (.fieldLink RX4 15 "ArcLight$Trial" "heads" "[I") (by decide +kernel)) (v := .ref (ad b2)) (zhvR e3 rfl) dX4_giveHeads_76 ?_
  refine lv_iload_n hx hb dX4_giveHeads_79 rfl (lv_at hl 3 rfl) ?_
  refine lv_iload hx hb dX4_giveHeads_80 (lv_at hl 5 rfl) ?_
  obtain ⟨g4, h⟩ := zg_some h
  refine z_iast hx hb hK hL hW hS g4 dX4_giveHeads_82 (fun H locs hW hS => ?_)
  obtain ⟨M5, eM6, h⟩ := zl_some h
  rw [← eM6] at hW
  refine lv_aload_n hx hb dX4_giveHeads_83 rfl (lv_at hl 0 rfl) ?_
  refine lv_aload_n hx hb dX4_giveHeads_84 rfl (lv_at hl 1 rfl) ?_
  refine lv_iload_n hx hb dX4_giveHeads_85 rfl (lv_at hl 2 rfl) ?_
  refine lv_iload_n hx hb dX4_giveHeads_86 rfl (lv_at hl 3 rfl) ?_
  refine lv_iconst (v := 1) hx hb dX4_giveHeads_87 (by decide) ?_
  refine lv_iadd hx hb dX4_giveHeads_88 ?_
  refine lv_lload hx hb dX4_giveHeads_89 (lv_at hl 4 rfl) ?_
  refine lv_lload hx hb dX4_giveHeads_91 (lv_at hl 6 rfl) ?_
  refine lv_ladd hx hb dX4_giveHeads_93 ?_
  obtain ⟨M9, e8, h⟩ := zb_some h
  refine z_callv hS (va_runS (As := [.ref (ad x0), .ref (ad x1), .int x2, .int (x3 + (1 : Int32)), .long (x4 + x7)]) (rest := []) ⟨hx, hb, hml, hown, hts⟩ (m_X4_giveHeads_d2 l hL N e8 H.size) (va_cwS 5 hts gX4_giveHeads_X4_giveHeads rfl rfl rfl (by decide +kernel) ⟨Nat.le_of_ble_eq_true rfl, Nat.le_of_ble_eq_true rfl⟩) (z_preS hK hE hW hS [.ref (ad x0), .ref (ad x1), .int x2, .int (x3 + (1 : Int32)), .long (x4 + x7)]) rfl rfl hl.1 rfl (lv_room (Nat.le_of_ble_eq_true rfl)) dX4_giveHeads_94 ⟨Nat.le_of_ble_eq_true rfl, Nat.le_of_ble_eq_true rfl⟩) (fun H locs hW hS => ?_)
  exact t_X4_giveHeads_97_d3 C0 N hk24 h hW hS (lv_sub hl [0, 1, 2, 3, 4, 5] rfl)
set_option maxRecDepth 100000 in
set_option maxHeartbeats 4000000 in
theorem t_X4_giveHeads_24_d3 {p : Program} {l : Launch} {e : Env} {s : State} {m : MethodId} {args : Array Value} {below : List Frame} {meth : Method} {c : Code} {D : va_G} {cy : Nat → ClassId} {ad : Nat → Nat} {L : List Nat} {K len : Nat → Nat} (C0 : zCx p s m c meth args cX4_giveHeads 9 wsX4_giveHeads RX4 none D cy ad L K) (N : Nat) {Mr : ZM} : ∀ (n : Nat) {x0 : Nat} {x1 : Nat} {x2 : Int32} {x3 : Int32} {x4 : Int64} {x6 : Int32} {M : ZM}, f_X4_giveHeads_24 N K len (f_X4_giveHeads N K len 2) n x0 x1 x2 x3 x4 x6 M = some Mr → ∀ {H : Heap} {locs : List Loc} {ls : Array Slot}, zWd D cy ad L K len M H → va_S (zA ad L s.heap.size) s.heap H locs → lv_has ls 9 [(0, .ref (ad x0)), (1, .ref (ad x1)), (2, .int x2), (3, .int x3), (4, .long x4), (6, .int x6)] → W p l e (headSpec wsX4_giveHeads ({ frames := 6, cells := 0, slots := 0, locals := 158 } : Room)).room s m args below meth c H locs 0 0 (MQ below (zQv D cy ad L K len Mr s.heap.size) args s 0 0 (zA ad L s.heap.size)) (F0 m 24 ls []) := by
  obtain ⟨hx, hb, hr, hml, hown, hts, hlocks, hK, hL, hE⟩ := id C0
  intro n
  induction n with
  | zero =>
    intro x0 x1 x2 x3 x4 x6 M h
    cases (show (none : Option (ZM)) = some Mr from h)
  | succ n ih =>
    intro x0 x1 x2 x3 x4 x6 M h H locs ls hW hS hl
    rw [f_X4_giveHeads_24] at h
    refine lv_iload hx hb dX4_giveHeads_24 (lv_at hl 5 rfl) ?_
    refine lv_aload_n hx hb dX4_giveHeads_26 rfl (lv_at hl 1 rfl) ?_
    obtain ⟨q1, e2, h⟩ := zb_some h
    obtain ⟨g3, h⟩ := zg_some h
    refine z_calli hS (va_runV (As := []) (rest := [.int x6]) ⟨hx, hb, hml, hown, hts⟩ (m_X0_size l hL N e2 H.size) (cwV 0 hts gX4_giveHeads_X0_size rfl rfl rfl (by decide +kernel) ⟨Nat.le_of_ble_eq_true rfl, Nat.le_of_ble_eq_true rfl⟩) (z_preV (q := (RX0, TX0, 2)) hK hL hE hW hS (zK_of g3) (by decide) rfl []) rfl rfl hl.1 rfl (lv_room (Nat.le_of_ble_eq_true rfl)) dX4_giveHeads_27 ⟨Nat.le_of_ble_eq_true rfl, Nat.le_of_ble_eq_true rfl⟩) (fun H locs hW hS => ?_)
    refine lv_icmp_gt (tgt := 103) hx hb dX4_giveHeads_30 (by decide) (fun c4 => ?_) (fun c4 => ?_)
    · have h := zip c4 h
      exact z_vret hx hb hr hlocks hW hS (Option.some.inj h) dX4_giveHeads_103
    · have h := zin c4 h
      refine lv_aload_n hx hb dX4_giveHeads_33 rfl (lv_at hl 1 rfl) ?_
      refine lv_iload hx hb dX4_giveHeads_34 (lv_at hl 5 rfl) ?_
      refine lv_iload_n hx hb dX4_giveHeads_36 rfl (lv_at hl 3 rfl) ?_
      obtain ⟨q5, e6, h⟩ := zb_some h
      refine z_calll hS (va_runV (As := [.int x6, .int x3]) (rest := []) ⟨hx, hb, hml, hown, hts⟩ (m_X0_get l hL N e6 H.size) (cwV 2 hts gX4_giveHeads_X0_get rfl rfl rfl (by decide +kernel) ⟨Nat.le_of_ble_eq_true rfl, Nat.le_of_ble_eq_true rfl⟩) (z_preV (q := (RX0, TX0, 2)) hK hL hE hW hS (zK_of g3) (by decide) rfl [.int x6, .int x3]) rfl rfl hl.1 rfl (lv_room (Nat.le_of_ble_eq_true rfl)) dX4_giveHeads_37 ⟨Nat.le_of_ble_eq_true rfl, Nat.le_of_ble_eq_true rfl⟩) (fun H locs hW hS => ?_)
      refine lv_lstore (lv' := [(7, .long q5), (0, .ref (ad x0)), (1, .ref (ad x1)), (2, .int x2), (3, .int x3), (4, .long x4), (6, .int x6)]) hx hb dX4_giveHeads_40 hl (by decide) rfl (fun ls hl => ?_)
      refine lv_lload hx hb dX4_giveHeads_42 (lv_at hl 0 rfl) ?_
      refine lv_ldc2 hx hb hown (hts (.constantLong RX4 27 (-9223372036854775808)) (by decide +kernel)) dX4_giveHeads_44 ?_
      refine z_lc_eq (tgt := 97) hx hb dX4_giveHeads_47 dX4_giveHeads_48 (by decide) (fun c7 => ?_) (fun c7 => ?_)
      · have h := zip c7 h
        exact t_X4_giveHeads_97_d3 C0 N (fun h _ _ _ hW hS hl => ih h hW hS hl) h hW hS (lv_sub hl [1, 2, 3, 4, 5, 6] rfl)
      · have h := zin c7 h
        refine lv_aload_n hx hb dX4_giveHeads_51 rfl (lv_at hl 1 rfl) ?_
        refine lv_iload hx hb dX4_giveHeads_52 (lv_at hl 6 rfl) ?_
        refine lv_iload_n hx hb dX4_giveHeads_54 rfl (lv_at hl 4 rfl) ?_
        obtain ⟨q8, e9, h⟩ := zb_some h
        obtain ⟨g10, h⟩ := zg_some h
        refine z_calli hS (va_runV (As := [.int x6, .int x3]) (rest := []) ⟨hx, hb, hml, hown, hts⟩ (m_X4_closesCircle l hL N e9 H.size) (cwV 2 hts gX4_giveHeads_X4_closesCircle rfl rfl rfl (by decide +kernel) ⟨Nat.le_of_ble_eq_true rfl, Nat.le_of_ble_eq_true rfl⟩) (z_preV (q := (RX4, TX4, 3)) hK hL hE hW hS (zK_of g10) (by decide) rfl [.int x6, .int x3]) rfl rfl hl.1 rfl (lv_room (Nat.le_of_ble_eq_true rfl)) dX4_giveHeads_55 ⟨Nat.le_of_ble_eq_true rfl, Nat.le_of_ble_eq_true rfl⟩) (fun H locs hW hS => ?_)
        refine lv_if_ne (tgt := 97) hx hb dX4_giveHeads_58 (by decide) (fun c11 => ?_) (fun c11 => ?_)
        · have h := zin c11 h
          exact t_X4_giveHeads_97_d3 C0 N (fun h _ _ _ hW hS hl => ih h hW hS hl) h hW hS (lv_sub hl [1, 2, 3, 4, 5, 6] rfl)
        · have h := zip c11 h
          refine lv_iload_n hx hb dX4_giveHeads_61 rfl (lv_at hl 3 rfl) ?_
          refine lv_if_ne (tgt := 75) hx hb dX4_giveHeads_62 (by decide) (fun c12 => ?_) (fun c12 => ?_)
          · have h := zin c12 h
            exact t_X4_giveHeads_75_d3 C0 N (fun h _ _ _ hW hS hl => ih h hW hS hl) h hW hS (lv_sub hl [1, 2, 3, 4, 5, 6, 0] rfl)
          · have h := zip c12 h
            refine lv_aload_n hx hb dX4_giveHeads_65 rfl (lv_at hl 1 rfl) ?_
            refine lv_iload hx hb dX4_giveHeads_66 (lv_at hl 6 rfl) ?_
            refine lv_iload_n hx hb dX4_giveHeads_68 rfl (lv_at hl 4 rfl) ?_
            obtain ⟨q13, e14, h⟩ := zb_some h
            refine z_calli hS (va_runV (As := [.int x6, .int x3]) (rest := []) ⟨hx, hb, hml, hown, hts⟩ (m_X4_crossesEarlier l hL N e14 H.size) (cwV 2 hts gX4_giveHeads_X4_crossesEarlier rfl rfl rfl (by decide +kernel) ⟨Nat.le_of_ble_eq_true rfl, Nat.le_of_ble_eq_true rfl⟩) (z_preV (q := (RX4, TX4, 3)) hK hL hE hW hS (zK_of g10) (by decide) rfl [.int x6, .int x3]) rfl rfl hl.1 rfl (lv_room (Nat.le_of_ble_eq_true rfl)) dX4_giveHeads_69 ⟨Nat.le_of_ble_eq_true rfl, Nat.le_of_ble_eq_true rfl⟩) (fun H locs hW hS => ?_)
            refine lv_if_ne (tgt := 97) hx hb dX4_giveHeads_72 (by decide) (fun c15 => ?_) (fun c15 => ?_)
            · have h := zin c15 h
              exact t_X4_giveHeads_97_d3 C0 N (fun h _ _ _ hW hS hl => ih h hW hS hl) h hW hS (lv_sub hl [1, 2, 3, 4, 5, 6] rfl)
            · have h := zip c15 h
              exact t_X4_giveHeads_75_d3 C0 N (fun h _ _ _ hW hS hl => ih h hW hS hl) h hW hS (lv_sub hl [1, 2, 3, 4, 5, 6, 0] rfl)
set_option maxRecDepth 100000 in
set_option maxHeartbeats 4000000 in
theorem t_X4_giveHeads_14_d3 {p : Program} {l : Launch} {e : Env} {s : State} {m : MethodId} {args : Array Value} {below : List Frame} {meth : Method} {c : Code} {D : va_G} {cy : Nat → ClassId} {ad : Nat → Nat} {L : List Nat} {K len : Nat → Nat} (C0 : zCx p s m c meth args cX4_giveHeads 9 wsX4_giveHeads RX4 none D cy ad L K) (N : Nat) {x0 : Nat} {x4 : Int64} {M : ZM} {Mr : ZM} (h : f_X4_giveHeads_14 N K len (f_X4_giveHeads N K len 2) x0 x4 M = some Mr) {H : Heap} {locs : List Loc} {ls : Array Slot} (hW : zWd D cy ad L K len M H) (hS : va_S (zA ad L s.heap.size) s.heap H locs) (hl : lv_has ls 9 [(0, .ref (ad x0)), (4, .long x4)]) : W p l e (headSpec wsX4_giveHeads ({ frames := 6, cells := 0, slots := 0, locals := 158 } : Room)).room s m args below meth c H locs 0 0 (MQ below (zQv D cy ad L K len Mr s.heap.size) args s 0 0 (zA ad L s.heap.size)) (F0 m 14 ls []) := by
  obtain ⟨hx, hb, hr, hml, hown, hts, hlocks, hK, hL, hE⟩ := id C0
  unfold f_X4_giveHeads_14 at h
  refine lv_aload_n hx hb dX4_giveHeads_14 rfl (lv_at hl 0 rfl) ?_
  refine lv_lload hx hb dX4_giveHeads_15 (lv_at hl 1 rfl) ?_
  obtain ⟨M3, e2, h⟩ := zb_some h
  obtain ⟨g4, h⟩ := zg_some h
  refine z_callv hS (va_runV (As := [.long x4]) (rest := []) ⟨hx, hb, hml, hown, hts⟩ (m_X4_note l hL N e2 H.size) (cwV 1 hts gX4_giveHeads_X4_note rfl rfl rfl (by decide +kernel) ⟨Nat.le_of_ble_eq_true rfl, Nat.le_of_ble_eq_true rfl⟩) (z_preV (q := (RX4, TX4, 3)) hK hL hE hW hS (zK_of g4) (by decide) rfl [.long x4]) rfl rfl hl.1 rfl (lv_room (Nat.le_of_ble_eq_true rfl)) dX4_giveHeads_17 ⟨Nat.le_of_ble_eq_true rfl, Nat.le_of_ble_eq_true rfl⟩) (fun H locs hW hS => ?_)
  exact z_vret hx hb hr hlocks hW hS (Option.some.inj h) dX4_giveHeads_20
set_option maxRecDepth 100000 in
set_option maxHeartbeats 4000000 in
theorem t_X4_giveHeads_0_d3 {p : Program} {l : Launch} {e : Env} {s : State} {m : MethodId} {args : Array Value} {below : List Frame} {meth : Method} {c : Code} {D : va_G} {cy : Nat → ClassId} {ad : Nat → Nat} {L : List Nat} {K len : Nat → Nat} (C0 : zCx p s m c meth args cX4_giveHeads 9 wsX4_giveHeads RX4 none D cy ad L K) (N : Nat) {x0 : Nat} {x1 : Nat} {x2 : Int32} {x3 : Int32} {x4 : Int64} {M : ZM} {Mr : ZM} (h : f_X4_giveHeads_0 N K len (f_X4_giveHeads N K len 2) x0 x1 x2 x3 x4 M = some Mr) {H : Heap} {locs : List Loc} {ls : Array Slot} (hW : zWd D cy ad L K len M H) (hS : va_S (zA ad L s.heap.size) s.heap H locs) (hl : lv_has ls 9 [(0, .ref (ad x0)), (1, .ref (ad x1)), (2, .int x2), (3, .int x3), (4, .long x4)]) : W p l e (headSpec wsX4_giveHeads ({ frames := 6, cells := 0, slots := 0, locals := 158 } : Room)).room s m args below meth c H locs 0 0 (MQ below (zQv D cy ad L K len Mr s.heap.size) args s 0 0 (zA ad L s.heap.size)) (F0 m 0 ls []) := by
  obtain ⟨hx, hb, hr, hml, hown, hts, hlocks, hK, hL, hE⟩ := id C0
  unfold f_X4_giveHeads_0 at h
  refine lv_iload_n hx hb dX4_giveHeads_0 rfl (lv_at hl 3 rfl) ?_
  refine lv_aload_n hx hb dX4_giveHeads_1 rfl (lv_at hl 1 rfl) ?_
  obtain ⟨q1, e2, h⟩ := zb_some h
  obtain ⟨g3, h⟩ := zg_some h
  refine z_calli hS (va_runV (As := []) (rest := [.int x3]) ⟨hx, hb, hml, hown, hts⟩ (m_X0_size l hL N e2 H.size) (cwV 0 hts gX4_giveHeads_X0_size rfl rfl rfl (by decide +kernel) ⟨Nat.le_of_ble_eq_true rfl, Nat.le_of_ble_eq_true rfl⟩) (z_preV (q := (RX0, TX0, 2)) hK hL hE hW hS (zK_of g3) (by decide) rfl []) rfl rfl hl.1 rfl (lv_room (Nat.le_of_ble_eq_true rfl)) dX4_giveHeads_2 ⟨Nat.le_of_ble_eq_true rfl, Nat.le_of_ble_eq_true rfl⟩) (fun H locs hW hS => ?_)
  refine lv_icmp_gt (tgt := 14) hx hb dX4_giveHeads_5 (by decide) (fun c4 => ?_) (fun c4 => ?_)
  · have h := zip c4 h
    exact t_X4_giveHeads_14_d3 C0 N  h hW hS (lv_sub hl [0, 4] rfl)
  · have h := zin c4 h
    refine lv_iload_n hx hb dX4_giveHeads_8 rfl (lv_at hl 3 rfl) ?_
    refine lv_bipush (v := 6) hx hb dX4_giveHeads_9 (by decide) ?_
    refine lv_icmp_le (tgt := 21) hx hb dX4_giveHeads_11 (by decide) (fun c5 => ?_) (fun c5 => ?_)
    · have h := zip c5 h
      refine lv_iconst (v := 0) hx hb dX4_giveHeads_21 (by decide) ?_
      refine lv_istore (lv' := [(6, .int (0 : Int32)), (0, .ref (ad x0)), (1, .ref (ad x1)), (2, .int x2), (3, .int x3), (4, .long x4)]) hx hb dX4_giveHeads_22 hl (by decide) rfl (fun ls hl => ?_)
      exact t_X4_giveHeads_24_d3 C0 N  N h hW hS (lv_sub hl [1, 2, 3, 4, 5, 0] rfl)
    · have h := zin c5 h
      exact t_X4_giveHeads_14_d3 C0 N  h hW hS (lv_sub hl [0, 4] rfl)
set_option maxRecDepth 100000 in
set_option maxHeartbeats 4000000 in
theorem m_X4_giveHeads_d3 (l : Launch) {D : va_G} {cy : Nat → ClassId} {ad : Nat → Nat} {L : List Nat} {K len : Nat → Nat} (hL : zSh ad L K) (N : Nat) {a0 : Nat} {a1 : Nat} {a2 : Int32} {a3 : Int32} {a4 : Int64} {M Mr : ZM} (h : f_X4_giveHeads N K len 3 a0 a1 a2 a3 a4 M = some Mr) (sz : Nat) : Met l yX4_giveHeads wsX4_giveHeads ({ frames := 6, cells := 0, slots := 0, locals := 158 } : Room) (zPre D cy ad L K len sz [.ref (ad a0), .ref (ad a1), .int a2, .int a3, .long a4] M) (zQv D cy ad L K len Mr sz) 0 0 (zA ad L sz) :=
  z_entry (Qf := fun sz => zQv D cy ad L K len Mr sz) (av := [.ref (ad a0), .ref (ad a1), .int a2, .int a3, .long a4]) (by decide) rfl rfl hL (Nat.le_of_ble_eq_true rfl) (fun p e s m args below meth c C0 H locs ls hW hS hl => t_X4_giveHeads_0_d3 C0 N h hW hS (lv_sub hl [0, 1, 2, 3, 4] rfl))
set_option maxRecDepth 100000 in
set_option maxHeartbeats 4000000 in
theorem t_X4_giveHeads_97_d4 {p : Program} {l : Launch} {e : Env} {s : State} {m : MethodId} {args : Array Value} {below : List Frame} {meth : Method} {c : Code} {D : va_G} {cy : Nat → ClassId} {ad : Nat → Nat} {L : List Nat} {K len : Nat → Nat} (C0 : zCx p s m c meth args cX4_giveHeads 9 wsX4_giveHeads RX4 none D cy ad L K) (N : Nat) {kh24 : Nat → Nat → Int32 → Int32 → Int64 → Int32 → ZM → Option (ZM)} {x0 : Nat} {x1 : Nat} {x2 : Int32} {x3 : Int32} {x4 : Int64} {x6 : Int32} {M : ZM} {Mr : ZM} (hk24 : ∀ {y0 : Nat} {y1 : Nat} {y2 : Int32} {y3 : Int32} {y4 : Int64} {y6 : Int32} {M : ZM}, kh24 y0 y1 y2 y3 y4 y6 M = some Mr → ∀ {H : Heap} {locs : List Loc} {ls : Array Slot}, zWd D cy ad L K len M H → va_S (zA ad L s.heap.size) s.heap H locs → lv_has ls 9 [(0, .ref (ad y0)), (1, .ref (ad y1)), (2, .int y2), (3, .int y3), (4, .long y4), (6, .int y6)] → W p l e (headSpec wsX4_giveHeads ({ frames := 7, cells := 0, slots := 0, locals := 186 } : Room)).room s m args below meth c H locs 0 0 (MQ below (zQv D cy ad L K len Mr s.heap.size) args s 0 0 (zA ad L s.heap.size)) (F0 m 24 ls [])) (h : f_X4_giveHeads_97 N K len (f_X4_giveHeads N K len 3) kh24 x0 x1 x2 x3 x4 x6 M = some Mr) {H : Heap} {locs : List Loc} {ls : Array Slot} (hW : zWd D cy ad L K len M H) (hS : va_S (zA ad L s.heap.size) s.heap H locs) (hl : lv_has ls 9 [(0, .ref (ad x0)), (1, .ref (ad x1)), (2, .int x2), (3, .int x3), (4, .long x4), (6, .int x6)]) : W p l e (headSpec wsX4_giveHeads ({ frames := 7, cells := 0, slots := 0, locals := 186 } : Room)).room s m args below meth c H locs 0 0 (MQ below (zQv D cy ad L K len Mr s.heap.size) args s 0 0 (zA ad L s.heap.size)) (F0 m 97 ls []) := by
  obtain ⟨hx, hb, hr, hml, hown, hts, hlocks, hK, hL, hE⟩ := id C0
  unfold f_X4_giveHeads_97 at h
  refine lv_iinc (k := 5) (v := (x6 + 1)) (lv' := [(6, .int (x6 + 1)), (0, .ref (ad x0)), (1, .ref (ad x1)), (2, .int x2), (3, .int x3), (4, .long x4)]) hx hb dX4_giveHeads_97 hl rfl (by rw [show Int32.ofInt 1 = (1 : Int32) from by decide]) (by decide) rfl (fun ls hl => ?_)
  refine lv_goto (tgt := 24) hx hb dX4_giveHeads_100 (by decide) ?_
  exact hk24 h hW hS (lv_sub hl [1, 2, 3, 4, 5, 0] rfl)
set_option maxRecDepth 100000 in
set_option maxHeartbeats 4000000 in
theorem t_X4_giveHeads_75_d4 {p : Program} {l : Launch} {e : Env} {s : State} {m : MethodId} {args : Array Value} {below : List Frame} {meth : Method} {c : Code} {D : va_G} {cy : Nat → ClassId} {ad : Nat → Nat} {L : List Nat} {K len : Nat → Nat} (C0 : zCx p s m c meth args cX4_giveHeads 9 wsX4_giveHeads RX4 none D cy ad L K) (N : Nat) {kh24 : Nat → Nat → Int32 → Int32 → Int64 → Int32 → ZM → Option (ZM)} {x0 : Nat} {x1 : Nat} {x2 : Int32} {x3 : Int32} {x4 : Int64} {x6 : Int32} {x7 : Int64} {M : ZM} {Mr : ZM} (hk24 : ∀ {y0 : Nat} {y1 : Nat} {y2 : Int32} {y3 : Int32} {y4 : Int64} {y6 : Int32} {M : ZM}, kh24 y0 y1 y2 y3 y4 y6 M = some Mr → ∀ {H : Heap} {locs : List Loc} {ls : Array Slot}, zWd D cy ad L K len M H → va_S (zA ad L s.heap.size) s.heap H locs → lv_has ls 9 [(0, .ref (ad y0)), (1, .ref (ad y1)), (2, .int y2), (3, .int y3), (4, .long y4), (6, .int y6)] → W p l e (headSpec wsX4_giveHeads ({ frames := 7, cells := 0, slots := 0, locals := 186 } : Room)).room s m args below meth c H locs 0 0 (MQ below (zQv D cy ad L K len Mr s.heap.size) args s 0 0 (zA ad L s.heap.size)) (F0 m 24 ls [])) (h : f_X4_giveHeads_75 N K len (f_X4_giveHeads N K len 3) kh24 x0 x1 x2 x3 x4 x6 x7 M = some Mr) {H : Heap} {locs : List Loc} {ls : Array Slot} (hW : zWd D cy ad L K len M H) (hS : va_S (zA ad L s.heap.size) s.heap H locs) (hl : lv_has ls 9 [(0, .ref (ad x0)), (1, .ref (ad x1)), (2, .int x2), (3, .int x3), (4, .long x4), (6, .int x6), (7, .long x7)]) : W p l e (headSpec wsX4_giveHeads ({ frames := 7, cells := 0, slots := 0, locals := 186 } : Room)).room s m args below meth c H locs 0 0 (MQ below (zQv D cy ad L K len Mr s.heap.size) args s 0 0 (zA ad L s.heap.size)) (F0 m 75 ls []) := by
  obtain ⟨hx, hb, hr, hml, hown, hts, hlocks, hK, hL, hE⟩ := id C0
  have hinX4 : ∀ w ∈ wsX40, w ∈ wsX4_giveHeads := by decide +kernel
  unfold f_X4_giveHeads_75 at h
  refine lv_aload_n hx hb dX4_giveHeads_75 rfl (lv_at hl 0 rfl) ?_
  obtain ⟨g1, h⟩ := zg_some h
  obtain ⟨b2, e3, h⟩ := zb_some h
  refine z_get (own := RX4) (C := RX4) (T := TX4) (N := 3) (ci := 4) hx hb hts hinX4 hown hK hL hW 1 (zK_of g1) rfl (by decide) (by decide) rfl (hts (.fieldLink RX4 15 "ArcLight$Trial" "heads" "[I") (by decide +kernel)) (v := .ref (ad b2)) (zhvR e3 rfl) dX4_giveHeads_76 ?_
  refine lv_iload_n hx hb dX4_giveHeads_79 rfl (lv_at hl 3 rfl) ?_
  refine lv_iload hx hb dX4_giveHeads_80 (lv_at hl 5 rfl) ?_
  obtain ⟨g4, h⟩ := zg_some h
  refine z_iast hx hb hK hL hW hS g4 dX4_giveHeads_82 (fun H locs hW hS => ?_)
  obtain ⟨M5, eM6, h⟩ := zl_some h
  rw [← eM6] at hW
  refine lv_aload_n hx hb dX4_giveHeads_83 rfl (lv_at hl 0 rfl) ?_
  refine lv_aload_n hx hb dX4_giveHeads_84 rfl (lv_at hl 1 rfl) ?_
  refine lv_iload_n hx hb dX4_giveHeads_85 rfl (lv_at hl 2 rfl) ?_
  refine lv_iload_n hx hb dX4_giveHeads_86 rfl (lv_at hl 3 rfl) ?_
  refine lv_iconst (v := 1) hx hb dX4_giveHeads_87 (by decide) ?_
  refine lv_iadd hx hb dX4_giveHeads_88 ?_
  refine lv_lload hx hb dX4_giveHeads_89 (lv_at hl 4 rfl) ?_
  refine lv_lload hx hb dX4_giveHeads_91 (lv_at hl 6 rfl) ?_
  refine lv_ladd hx hb dX4_giveHeads_93 ?_
  obtain ⟨M9, e8, h⟩ := zb_some h
  refine z_callv hS (va_runS (As := [.ref (ad x0), .ref (ad x1), .int x2, .int (x3 + (1 : Int32)), .long (x4 + x7)]) (rest := []) ⟨hx, hb, hml, hown, hts⟩ (m_X4_giveHeads_d3 l hL N e8 H.size) (va_cwS 5 hts gX4_giveHeads_X4_giveHeads rfl rfl rfl (by decide +kernel) ⟨Nat.le_of_ble_eq_true rfl, Nat.le_of_ble_eq_true rfl⟩) (z_preS hK hE hW hS [.ref (ad x0), .ref (ad x1), .int x2, .int (x3 + (1 : Int32)), .long (x4 + x7)]) rfl rfl hl.1 rfl (lv_room (Nat.le_of_ble_eq_true rfl)) dX4_giveHeads_94 ⟨Nat.le_of_ble_eq_true rfl, Nat.le_of_ble_eq_true rfl⟩) (fun H locs hW hS => ?_)
  exact t_X4_giveHeads_97_d4 C0 N hk24 h hW hS (lv_sub hl [0, 1, 2, 3, 4, 5] rfl)
set_option maxRecDepth 100000 in
set_option maxHeartbeats 4000000 in
theorem t_X4_giveHeads_24_d4 {p : Program} {l : Launch} {e : Env} {s : State} {m : MethodId} {args : Array Value} {below : List Frame} {meth : Method} {c : Code} {D : va_G} {cy : Nat → ClassId} {ad : Nat → Nat} {L : List Nat} {K len : Nat → Nat} (C0 : zCx p s m c meth args cX4_giveHeads 9 wsX4_giveHeads RX4 none D cy ad L K) (N : Nat) {Mr : ZM} : ∀ (n : Nat) {x0 : Nat} {x1 : Nat} {x2 : Int32} {x3 : Int32} {x4 : Int64} {x6 : Int32} {M : ZM}, f_X4_giveHeads_24 N K len (f_X4_giveHeads N K len 3) n x0 x1 x2 x3 x4 x6 M = some Mr → ∀ {H : Heap} {locs : List Loc} {ls : Array Slot}, zWd D cy ad L K len M H → va_S (zA ad L s.heap.size) s.heap H locs → lv_has ls 9 [(0, .ref (ad x0)), (1, .ref (ad x1)), (2, .int x2), (3, .int x3), (4, .long x4), (6, .int x6)] → W p l e (headSpec wsX4_giveHeads ({ frames := 7, cells := 0, slots := 0, locals := 186 } : Room)).room s m args below meth c H locs 0 0 (MQ below (zQv D cy ad L K len Mr s.heap.size) args s 0 0 (zA ad L s.heap.size)) (F0 m 24 ls []) := by
  obtain ⟨hx, hb, hr, hml, hown, hts, hlocks, hK, hL, hE⟩ := id C0
  intro n
  induction n with
  | zero =>
    intro x0 x1 x2 x3 x4 x6 M h
    cases (show (none : Option (ZM)) = some Mr from h)
  | succ n ih =>
    intro x0 x1 x2 x3 x4 x6 M h H locs ls hW hS hl
    rw [f_X4_giveHeads_24] at h
    refine lv_iload hx hb dX4_giveHeads_24 (lv_at hl 5 rfl) ?_
    refine lv_aload_n hx hb dX4_giveHeads_26 rfl (lv_at hl 1 rfl) ?_
    obtain ⟨q1, e2, h⟩ := zb_some h
    obtain ⟨g3, h⟩ := zg_some h
    refine z_calli hS (va_runV (As := []) (rest := [.int x6]) ⟨hx, hb, hml, hown, hts⟩ (m_X0_size l hL N e2 H.size) (cwV 0 hts gX4_giveHeads_X0_size rfl rfl rfl (by decide +kernel) ⟨Nat.le_of_ble_eq_true rfl, Nat.le_of_ble_eq_true rfl⟩) (z_preV (q := (RX0, TX0, 2)) hK hL hE hW hS (zK_of g3) (by decide) rfl []) rfl rfl hl.1 rfl (lv_room (Nat.le_of_ble_eq_true rfl)) dX4_giveHeads_27 ⟨Nat.le_of_ble_eq_true rfl, Nat.le_of_ble_eq_true rfl⟩) (fun H locs hW hS => ?_)
    refine lv_icmp_gt (tgt := 103) hx hb dX4_giveHeads_30 (by decide) (fun c4 => ?_) (fun c4 => ?_)
    · have h := zip c4 h
      exact z_vret hx hb hr hlocks hW hS (Option.some.inj h) dX4_giveHeads_103
    · have h := zin c4 h
      refine lv_aload_n hx hb dX4_giveHeads_33 rfl (lv_at hl 1 rfl) ?_
      refine lv_iload hx hb dX4_giveHeads_34 (lv_at hl 5 rfl) ?_
      refine lv_iload_n hx hb dX4_giveHeads_36 rfl (lv_at hl 3 rfl) ?_
      obtain ⟨q5, e6, h⟩ := zb_some h
      refine z_calll hS (va_runV (As := [.int x6, .int x3]) (rest := []) ⟨hx, hb, hml, hown, hts⟩ (m_X0_get l hL N e6 H.size) (cwV 2 hts gX4_giveHeads_X0_get rfl rfl rfl (by decide +kernel) ⟨Nat.le_of_ble_eq_true rfl, Nat.le_of_ble_eq_true rfl⟩) (z_preV (q := (RX0, TX0, 2)) hK hL hE hW hS (zK_of g3) (by decide) rfl [.int x6, .int x3]) rfl rfl hl.1 rfl (lv_room (Nat.le_of_ble_eq_true rfl)) dX4_giveHeads_37 ⟨Nat.le_of_ble_eq_true rfl, Nat.le_of_ble_eq_true rfl⟩) (fun H locs hW hS => ?_)
      refine lv_lstore (lv' := [(7, .long q5), (0, .ref (ad x0)), (1, .ref (ad x1)), (2, .int x2), (3, .int x3), (4, .long x4), (6, .int x6)]) hx hb dX4_giveHeads_40 hl (by decide) rfl (fun ls hl => ?_)
      refine lv_lload hx hb dX4_giveHeads_42 (lv_at hl 0 rfl) ?_
      refine lv_ldc2 hx hb hown (hts (.constantLong RX4 27 (-9223372036854775808)) (by decide +kernel)) dX4_giveHeads_44 ?_
      refine z_lc_eq (tgt := 97) hx hb dX4_giveHeads_47 dX4_giveHeads_48 (by decide) (fun c7 => ?_) (fun c7 => ?_)
      · have h := zip c7 h
        exact t_X4_giveHeads_97_d4 C0 N (fun h _ _ _ hW hS hl => ih h hW hS hl) h hW hS (lv_sub hl [1, 2, 3, 4, 5, 6] rfl)
      · have h := zin c7 h
        refine lv_aload_n hx hb dX4_giveHeads_51 rfl (lv_at hl 1 rfl) ?_
        refine lv_iload hx hb dX4_giveHeads_52 (lv_at hl 6 rfl) ?_
        refine lv_iload_n hx hb dX4_giveHeads_54 rfl (lv_at hl 4 rfl) ?_
        obtain ⟨q8, e9, h⟩ := zb_some h
        obtain ⟨g10, h⟩ := zg_some h
        refine z_calli hS (va_runV (As := [.int x6, .int x3]) (rest := []) ⟨hx, hb, hml, hown, hts⟩ (m_X4_closesCircle l hL N e9 H.size) (cwV 2 hts gX4_giveHeads_X4_closesCircle rfl rfl rfl (by decide +kernel) ⟨Nat.le_of_ble_eq_true rfl, Nat.le_of_ble_eq_true rfl⟩) (z_preV (q := (RX4, TX4, 3)) hK hL hE hW hS (zK_of g10) (by decide) rfl [.int x6, .int x3]) rfl rfl hl.1 rfl (lv_room (Nat.le_of_ble_eq_true rfl)) dX4_giveHeads_55 ⟨Nat.le_of_ble_eq_true rfl, Nat.le_of_ble_eq_true rfl⟩) (fun H locs hW hS => ?_)
        refine lv_if_ne (tgt := 97) hx hb dX4_giveHeads_58 (by decide) (fun c11 => ?_) (fun c11 => ?_)
        · have h := zin c11 h
          exact t_X4_giveHeads_97_d4 C0 N (fun h _ _ _ hW hS hl => ih h hW hS hl) h hW hS (lv_sub hl [1, 2, 3, 4, 5, 6] rfl)
        · have h := zip c11 h
          refine lv_iload_n hx hb dX4_giveHeads_61 rfl (lv_at hl 3 rfl) ?_
          refine lv_if_ne (tgt := 75) hx hb dX4_giveHeads_62 (by decide) (fun c12 => ?_) (fun c12 => ?_)
          · have h := zin c12 h
            exact t_X4_giveHeads_75_d4 C0 N (fun h _ _ _ hW hS hl => ih h hW hS hl) h hW hS (lv_sub hl [1, 2, 3, 4, 5, 6, 0] rfl)
          · have h := zip c12 h
            refine lv_aload_n hx hb dX4_giveHeads_65 rfl (lv_at hl 1 rfl) ?_
            refine lv_iload hx hb dX4_giveHeads_66 (lv_at hl 6 rfl) ?_
            refine lv_iload_n hx hb dX4_giveHeads_68 rfl (lv_at hl 4 rfl) ?_
            obtain ⟨q13, e14, h⟩ := zb_some h
            refine z_calli hS (va_runV (As := [.int x6, .int x3]) (rest := []) ⟨hx, hb, hml, hown, hts⟩ (m_X4_crossesEarlier l hL N e14 H.size) (cwV 2 hts gX4_giveHeads_X4_crossesEarlier rfl rfl rfl (by decide +kernel) ⟨Nat.le_of_ble_eq_true rfl, Nat.le_of_ble_eq_true rfl⟩) (z_preV (q := (RX4, TX4, 3)) hK hL hE hW hS (zK_of g10) (by decide) rfl [.int x6, .int x3]) rfl rfl hl.1 rfl (lv_room (Nat.le_of_ble_eq_true rfl)) dX4_giveHeads_69 ⟨Nat.le_of_ble_eq_true rfl, Nat.le_of_ble_eq_true rfl⟩) (fun H locs hW hS => ?_)
            refine lv_if_ne (tgt := 97) hx hb dX4_giveHeads_72 (by decide) (fun c15 => ?_) (fun c15 => ?_)
            · have h := zin c15 h
              exact t_X4_giveHeads_97_d4 C0 N (fun h _ _ _ hW hS hl => ih h hW hS hl) h hW hS (lv_sub hl [1, 2, 3, 4, 5, 6] rfl)
            · have h := zip c15 h
              exact t_X4_giveHeads_75_d4 C0 N (fun h _ _ _ hW hS hl => ih h hW hS hl) h hW hS (lv_sub hl [1, 2, 3, 4, 5, 6, 0] rfl)
set_option maxRecDepth 100000 in
set_option maxHeartbeats 4000000 in
theorem t_X4_giveHeads_14_d4 {p : Program} {l : Launch} {e : Env} {s : State} {m : MethodId} {args : Array Value} {below : List Frame} {meth : Method} {c : Code} {D : va_G} {cy : Nat → ClassId} {ad : Nat → Nat} {L : List Nat} {K len : Nat → Nat} (C0 : zCx p s m c meth args cX4_giveHeads 9 wsX4_giveHeads RX4 none D cy ad L K) (N : Nat) {x0 : Nat} {x4 : Int64} {M : ZM} {Mr : ZM} (h : f_X4_giveHeads_14 N K len (f_X4_giveHeads N K len 3) x0 x4 M = some Mr) {H : Heap} {locs : List Loc} {ls : Array Slot} (hW : zWd D cy ad L K len M H) (hS : va_S (zA ad L s.heap.size) s.heap H locs) (hl : lv_has ls 9 [(0, .ref (ad x0)), (4, .long x4)]) : W p l e (headSpec wsX4_giveHeads ({ frames := 7, cells := 0, slots := 0, locals := 186 } : Room)).room s m args below meth c H locs 0 0 (MQ below (zQv D cy ad L K len Mr s.heap.size) args s 0 0 (zA ad L s.heap.size)) (F0 m 14 ls []) := by
  obtain ⟨hx, hb, hr, hml, hown, hts, hlocks, hK, hL, hE⟩ := id C0
  unfold f_X4_giveHeads_14 at h
  refine lv_aload_n hx hb dX4_giveHeads_14 rfl (lv_at hl 0 rfl) ?_
  refine lv_lload hx hb dX4_giveHeads_15 (lv_at hl 1 rfl) ?_
  obtain ⟨M3, e2, h⟩ := zb_some h
  obtain ⟨g4, h⟩ := zg_some h
  refine z_callv hS (va_runV (As := [.long x4]) (rest := []) ⟨hx, hb, hml, hown, hts⟩ (m_X4_note l hL N e2 H.size) (cwV 1 hts gX4_giveHeads_X4_note rfl rfl rfl (by decide +kernel) ⟨Nat.le_of_ble_eq_true rfl, Nat.le_of_ble_eq_true rfl⟩) (z_preV (q := (RX4, TX4, 3)) hK hL hE hW hS (zK_of g4) (by decide) rfl [.long x4]) rfl rfl hl.1 rfl (lv_room (Nat.le_of_ble_eq_true rfl)) dX4_giveHeads_17 ⟨Nat.le_of_ble_eq_true rfl, Nat.le_of_ble_eq_true rfl⟩) (fun H locs hW hS => ?_)
  exact z_vret hx hb hr hlocks hW hS (Option.some.inj h) dX4_giveHeads_20
set_option maxRecDepth 100000 in
set_option maxHeartbeats 4000000 in
theorem t_X4_giveHeads_0_d4 {p : Program} {l : Launch} {e : Env} {s : State} {m : MethodId} {args : Array Value} {below : List Frame} {meth : Method} {c : Code} {D : va_G} {cy : Nat → ClassId} {ad : Nat → Nat} {L : List Nat} {K len : Nat → Nat} (C0 : zCx p s m c meth args cX4_giveHeads 9 wsX4_giveHeads RX4 none D cy ad L K) (N : Nat) {x0 : Nat} {x1 : Nat} {x2 : Int32} {x3 : Int32} {x4 : Int64} {M : ZM} {Mr : ZM} (h : f_X4_giveHeads_0 N K len (f_X4_giveHeads N K len 3) x0 x1 x2 x3 x4 M = some Mr) {H : Heap} {locs : List Loc} {ls : Array Slot} (hW : zWd D cy ad L K len M H) (hS : va_S (zA ad L s.heap.size) s.heap H locs) (hl : lv_has ls 9 [(0, .ref (ad x0)), (1, .ref (ad x1)), (2, .int x2), (3, .int x3), (4, .long x4)]) : W p l e (headSpec wsX4_giveHeads ({ frames := 7, cells := 0, slots := 0, locals := 186 } : Room)).room s m args below meth c H locs 0 0 (MQ below (zQv D cy ad L K len Mr s.heap.size) args s 0 0 (zA ad L s.heap.size)) (F0 m 0 ls []) := by
  obtain ⟨hx, hb, hr, hml, hown, hts, hlocks, hK, hL, hE⟩ := id C0
  unfold f_X4_giveHeads_0 at h
  refine lv_iload_n hx hb dX4_giveHeads_0 rfl (lv_at hl 3 rfl) ?_
  refine lv_aload_n hx hb dX4_giveHeads_1 rfl (lv_at hl 1 rfl) ?_
  obtain ⟨q1, e2, h⟩ := zb_some h
  obtain ⟨g3, h⟩ := zg_some h
  refine z_calli hS (va_runV (As := []) (rest := [.int x3]) ⟨hx, hb, hml, hown, hts⟩ (m_X0_size l hL N e2 H.size) (cwV 0 hts gX4_giveHeads_X0_size rfl rfl rfl (by decide +kernel) ⟨Nat.le_of_ble_eq_true rfl, Nat.le_of_ble_eq_true rfl⟩) (z_preV (q := (RX0, TX0, 2)) hK hL hE hW hS (zK_of g3) (by decide) rfl []) rfl rfl hl.1 rfl (lv_room (Nat.le_of_ble_eq_true rfl)) dX4_giveHeads_2 ⟨Nat.le_of_ble_eq_true rfl, Nat.le_of_ble_eq_true rfl⟩) (fun H locs hW hS => ?_)
  refine lv_icmp_gt (tgt := 14) hx hb dX4_giveHeads_5 (by decide) (fun c4 => ?_) (fun c4 => ?_)
  · have h := zip c4 h
    exact t_X4_giveHeads_14_d4 C0 N  h hW hS (lv_sub hl [0, 4] rfl)
  · have h := zin c4 h
    refine lv_iload_n hx hb dX4_giveHeads_8 rfl (lv_at hl 3 rfl) ?_
    refine lv_bipush (v := 6) hx hb dX4_giveHeads_9 (by decide) ?_
    refine lv_icmp_le (tgt := 21) hx hb dX4_giveHeads_11 (by decide) (fun c5 => ?_) (fun c5 => ?_)
    · have h := zip c5 h
      refine lv_iconst (v := 0) hx hb dX4_giveHeads_21 (by decide) ?_
      refine lv_istore (lv' := [(6, .int (0 : Int32)), (0, .ref (ad x0)), (1, .ref (ad x1)), (2, .int x2), (3, .int x3), (4, .long x4)]) hx hb dX4_giveHeads_22 hl (by decide) rfl (fun ls hl => ?_)
      exact t_X4_giveHeads_24_d4 C0 N  N h hW hS (lv_sub hl [1, 2, 3, 4, 5, 0] rfl)
    · have h := zin c5 h
      exact t_X4_giveHeads_14_d4 C0 N  h hW hS (lv_sub hl [0, 4] rfl)
set_option maxRecDepth 100000 in
set_option maxHeartbeats 4000000 in
theorem m_X4_giveHeads_d4 (l : Launch) {D : va_G} {cy : Nat → ClassId} {ad : Nat → Nat} {L : List Nat} {K len : Nat → Nat} (hL : zSh ad L K) (N : Nat) {a0 : Nat} {a1 : Nat} {a2 : Int32} {a3 : Int32} {a4 : Int64} {M Mr : ZM} (h : f_X4_giveHeads N K len 4 a0 a1 a2 a3 a4 M = some Mr) (sz : Nat) : Met l yX4_giveHeads wsX4_giveHeads ({ frames := 7, cells := 0, slots := 0, locals := 186 } : Room) (zPre D cy ad L K len sz [.ref (ad a0), .ref (ad a1), .int a2, .int a3, .long a4] M) (zQv D cy ad L K len Mr sz) 0 0 (zA ad L sz) :=
  z_entry (Qf := fun sz => zQv D cy ad L K len Mr sz) (av := [.ref (ad a0), .ref (ad a1), .int a2, .int a3, .long a4]) (by decide) rfl rfl hL (Nat.le_of_ble_eq_true rfl) (fun p e s m args below meth c C0 H locs ls hW hS hl => t_X4_giveHeads_0_d4 C0 N h hW hS (lv_sub hl [0, 1, 2, 3, 4] rfl))
set_option maxRecDepth 100000 in
set_option maxHeartbeats 4000000 in
theorem t_X4_giveHeads_97_d5 {p : Program} {l : Launch} {e : Env} {s : State} {m : MethodId} {args : Array Value} {below : List Frame} {meth : Method} {c : Code} {D : va_G} {cy : Nat → ClassId} {ad : Nat → Nat} {L : List Nat} {K len : Nat → Nat} (C0 : zCx p s m c meth args cX4_giveHeads 9 wsX4_giveHeads RX4 none D cy ad L K) (N : Nat) {kh24 : Nat → Nat → Int32 → Int32 → Int64 → Int32 → ZM → Option (ZM)} {x0 : Nat} {x1 : Nat} {x2 : Int32} {x3 : Int32} {x4 : Int64} {x6 : Int32} {M : ZM} {Mr : ZM} (hk24 : ∀ {y0 : Nat} {y1 : Nat} {y2 : Int32} {y3 : Int32} {y4 : Int64} {y6 : Int32} {M : ZM}, kh24 y0 y1 y2 y3 y4 y6 M = some Mr → ∀ {H : Heap} {locs : List Loc} {ls : Array Slot}, zWd D cy ad L K len M H → va_S (zA ad L s.heap.size) s.heap H locs → lv_has ls 9 [(0, .ref (ad y0)), (1, .ref (ad y1)), (2, .int y2), (3, .int y3), (4, .long y4), (6, .int y6)] → W p l e (headSpec wsX4_giveHeads ({ frames := 8, cells := 0, slots := 0, locals := 214 } : Room)).room s m args below meth c H locs 0 0 (MQ below (zQv D cy ad L K len Mr s.heap.size) args s 0 0 (zA ad L s.heap.size)) (F0 m 24 ls [])) (h : f_X4_giveHeads_97 N K len (f_X4_giveHeads N K len 4) kh24 x0 x1 x2 x3 x4 x6 M = some Mr) {H : Heap} {locs : List Loc} {ls : Array Slot} (hW : zWd D cy ad L K len M H) (hS : va_S (zA ad L s.heap.size) s.heap H locs) (hl : lv_has ls 9 [(0, .ref (ad x0)), (1, .ref (ad x1)), (2, .int x2), (3, .int x3), (4, .long x4), (6, .int x6)]) : W p l e (headSpec wsX4_giveHeads ({ frames := 8, cells := 0, slots := 0, locals := 214 } : Room)).room s m args below meth c H locs 0 0 (MQ below (zQv D cy ad L K len Mr s.heap.size) args s 0 0 (zA ad L s.heap.size)) (F0 m 97 ls []) := by
  obtain ⟨hx, hb, hr, hml, hown, hts, hlocks, hK, hL, hE⟩ := id C0
  unfold f_X4_giveHeads_97 at h
  refine lv_iinc (k := 5) (v := (x6 + 1)) (lv' := [(6, .int (x6 + 1)), (0, .ref (ad x0)), (1, .ref (ad x1)), (2, .int x2), (3, .int x3), (4, .long x4)]) hx hb dX4_giveHeads_97 hl rfl (by rw [show Int32.ofInt 1 = (1 : Int32) from by decide]) (by decide) rfl (fun ls hl => ?_)
  refine lv_goto (tgt := 24) hx hb dX4_giveHeads_100 (by decide) ?_
  exact hk24 h hW hS (lv_sub hl [1, 2, 3, 4, 5, 0] rfl)
set_option maxRecDepth 100000 in
set_option maxHeartbeats 4000000 in
theorem t_X4_giveHeads_75_d5 {p : Program} {l : Launch} {e : Env} {s : State} {m : MethodId} {args : Array Value} {below : List Frame} {meth : Method} {c : Code} {D : va_G} {cy : Nat → ClassId} {ad : Nat → Nat} {L : List Nat} {K len : Nat → Nat} (C0 : zCx p s m c meth args cX4_giveHeads 9 wsX4_giveHeads RX4 none D cy ad L K) (N : Nat) {kh24 : Nat → Nat → Int32 → Int32 → Int64 → Int32 → ZM → Option (ZM)} {x0 : Nat} {x1 : Nat} {x2 : Int32} {x3 : Int32} {x4 : Int64} {x6 : Int32} {x7 : Int64} {M : ZM} {Mr : ZM} (hk24 : ∀ {y0 : Nat} {y1 : Nat} {y2 : Int32} {y3 : Int32} {y4 : Int64} {y6 : Int32} {M : ZM}, kh24 y0 y1 y2 y3 y4 y6 M = some Mr → ∀ {H : Heap} {locs : List Loc} {ls : Array Slot}, zWd D cy ad L K len M H → va_S (zA ad L s.heap.size) s.heap H locs → lv_has ls 9 [(0, .ref (ad y0)), (1, .ref (ad y1)), (2, .int y2), (3, .int y3), (4, .long y4), (6, .int y6)] → W p l e (headSpec wsX4_giveHeads ({ frames := 8, cells := 0, slots := 0, locals := 214 } : Room)).room s m args below meth c H locs 0 0 (MQ below (zQv D cy ad L K len Mr s.heap.size) args s 0 0 (zA ad L s.heap.size)) (F0 m 24 ls [])) (h : f_X4_giveHeads_75 N K len (f_X4_giveHeads N K len 4) kh24 x0 x1 x2 x3 x4 x6 x7 M = some Mr) {H : Heap} {locs : List Loc} {ls : Array Slot} (hW : zWd D cy ad L K len M H) (hS : va_S (zA ad L s.heap.size) s.heap H locs) (hl : lv_has ls 9 [(0, .ref (ad x0)), (1, .ref (ad x1)), (2, .int x2), (3, .int x3), (4, .long x4), (6, .int x6), (7, .long x7)]) : W p l e (headSpec wsX4_giveHeads ({ frames := 8, cells := 0, slots := 0, locals := 214 } : Room)).room s m args below meth c H locs 0 0 (MQ below (zQv D cy ad L K len Mr s.heap.size) args s 0 0 (zA ad L s.heap.size)) (F0 m 75 ls []) := by
  obtain ⟨hx, hb, hr, hml, hown, hts, hlocks, hK, hL, hE⟩ := id C0
  have hinX4 : ∀ w ∈ wsX40, w ∈ wsX4_giveHeads := by decide +kernel
  unfold f_X4_giveHeads_75 at h
  refine lv_aload_n hx hb dX4_giveHeads_75 rfl (lv_at hl 0 rfl) ?_
  obtain ⟨g1, h⟩ := zg_some h
  obtain ⟨b2, e3, h⟩ := zb_some h
  refine z_get (own := RX4) (C := RX4) (T := TX4) (N := 3) (ci := 4) hx hb hts hinX4 hown hK hL hW 1 (zK_of g1) rfl (by decide) (by decide) rfl (hts (.fieldLink RX4 15 "ArcLight$Trial" "heads" "[I") (by decide +kernel)) (v := .ref (ad b2)) (zhvR e3 rfl) dX4_giveHeads_76 ?_
  refine lv_iload_n hx hb dX4_giveHeads_79 rfl (lv_at hl 3 rfl) ?_
  refine lv_iload hx hb dX4_giveHeads_80 (lv_at hl 5 rfl) ?_
  obtain ⟨g4, h⟩ := zg_some h
  refine z_iast hx hb hK hL hW hS g4 dX4_giveHeads_82 (fun H locs hW hS => ?_)
  obtain ⟨M5, eM6, h⟩ := zl_some h
  rw [← eM6] at hW
  refine lv_aload_n hx hb dX4_giveHeads_83 rfl (lv_at hl 0 rfl) ?_
  refine lv_aload_n hx hb dX4_giveHeads_84 rfl (lv_at hl 1 rfl) ?_
  refine lv_iload_n hx hb dX4_giveHeads_85 rfl (lv_at hl 2 rfl) ?_
  refine lv_iload_n hx hb dX4_giveHeads_86 rfl (lv_at hl 3 rfl) ?_
  refine lv_iconst (v := 1) hx hb dX4_giveHeads_87 (by decide) ?_
  refine lv_iadd hx hb dX4_giveHeads_88 ?_
  refine lv_lload hx hb dX4_giveHeads_89 (lv_at hl 4 rfl) ?_
  refine lv_lload hx hb dX4_giveHeads_91 (lv_at hl 6 rfl) ?_
  refine lv_ladd hx hb dX4_giveHeads_93 ?_
  obtain ⟨M9, e8, h⟩ := zb_some h
  refine z_callv hS (va_runS (As := [.ref (ad x0), .ref (ad x1), .int x2, .int (x3 + (1 : Int32)), .long (x4 + x7)]) (rest := []) ⟨hx, hb, hml, hown, hts⟩ (m_X4_giveHeads_d4 l hL N e8 H.size) (va_cwS 5 hts gX4_giveHeads_X4_giveHeads rfl rfl rfl (by decide +kernel) ⟨Nat.le_of_ble_eq_true rfl, Nat.le_of_ble_eq_true rfl⟩) (z_preS hK hE hW hS [.ref (ad x0), .ref (ad x1), .int x2, .int (x3 + (1 : Int32)), .long (x4 + x7)]) rfl rfl hl.1 rfl (lv_room (Nat.le_of_ble_eq_true rfl)) dX4_giveHeads_94 ⟨Nat.le_of_ble_eq_true rfl, Nat.le_of_ble_eq_true rfl⟩) (fun H locs hW hS => ?_)
  exact t_X4_giveHeads_97_d5 C0 N hk24 h hW hS (lv_sub hl [0, 1, 2, 3, 4, 5] rfl)
set_option maxRecDepth 100000 in
set_option maxHeartbeats 4000000 in
theorem t_X4_giveHeads_24_d5 {p : Program} {l : Launch} {e : Env} {s : State} {m : MethodId} {args : Array Value} {below : List Frame} {meth : Method} {c : Code} {D : va_G} {cy : Nat → ClassId} {ad : Nat → Nat} {L : List Nat} {K len : Nat → Nat} (C0 : zCx p s m c meth args cX4_giveHeads 9 wsX4_giveHeads RX4 none D cy ad L K) (N : Nat) {Mr : ZM} : ∀ (n : Nat) {x0 : Nat} {x1 : Nat} {x2 : Int32} {x3 : Int32} {x4 : Int64} {x6 : Int32} {M : ZM}, f_X4_giveHeads_24 N K len (f_X4_giveHeads N K len 4) n x0 x1 x2 x3 x4 x6 M = some Mr → ∀ {H : Heap} {locs : List Loc} {ls : Array Slot}, zWd D cy ad L K len M H → va_S (zA ad L s.heap.size) s.heap H locs → lv_has ls 9 [(0, .ref (ad x0)), (1, .ref (ad x1)), (2, .int x2), (3, .int x3), (4, .long x4), (6, .int x6)] → W p l e (headSpec wsX4_giveHeads ({ frames := 8, cells := 0, slots := 0, locals := 214 } : Room)).room s m args below meth c H locs 0 0 (MQ below (zQv D cy ad L K len Mr s.heap.size) args s 0 0 (zA ad L s.heap.size)) (F0 m 24 ls []) := by
  obtain ⟨hx, hb, hr, hml, hown, hts, hlocks, hK, hL, hE⟩ := id C0
  intro n
  induction n with
  | zero =>
    intro x0 x1 x2 x3 x4 x6 M h
    cases (show (none : Option (ZM)) = some Mr from h)
  | succ n ih =>
    intro x0 x1 x2 x3 x4 x6 M h H locs ls hW hS hl
    rw [f_X4_giveHeads_24] at h
    refine lv_iload hx hb dX4_giveHeads_24 (lv_at hl 5 rfl) ?_
    refine lv_aload_n hx hb dX4_giveHeads_26 rfl (lv_at hl 1 rfl) ?_
    obtain ⟨q1, e2, h⟩ := zb_some h
    obtain ⟨g3, h⟩ := zg_some h
    refine z_calli hS (va_runV (As := []) (rest := [.int x6]) ⟨hx, hb, hml, hown, hts⟩ (m_X0_size l hL N e2 H.size) (cwV 0 hts gX4_giveHeads_X0_size rfl rfl rfl (by decide +kernel) ⟨Nat.le_of_ble_eq_true rfl, Nat.le_of_ble_eq_true rfl⟩) (z_preV (q := (RX0, TX0, 2)) hK hL hE hW hS (zK_of g3) (by decide) rfl []) rfl rfl hl.1 rfl (lv_room (Nat.le_of_ble_eq_true rfl)) dX4_giveHeads_27 ⟨Nat.le_of_ble_eq_true rfl, Nat.le_of_ble_eq_true rfl⟩) (fun H locs hW hS => ?_)
    refine lv_icmp_gt (tgt := 103) hx hb dX4_giveHeads_30 (by decide) (fun c4 => ?_) (fun c4 => ?_)
    · have h := zip c4 h
      exact z_vret hx hb hr hlocks hW hS (Option.some.inj h) dX4_giveHeads_103
    · have h := zin c4 h
      refine lv_aload_n hx hb dX4_giveHeads_33 rfl (lv_at hl 1 rfl) ?_
      refine lv_iload hx hb dX4_giveHeads_34 (lv_at hl 5 rfl) ?_
      refine lv_iload_n hx hb dX4_giveHeads_36 rfl (lv_at hl 3 rfl) ?_
      obtain ⟨q5, e6, h⟩ := zb_some h
      refine z_calll hS (va_runV (As := [.int x6, .int x3]) (rest := []) ⟨hx, hb, hml, hown, hts⟩ (m_X0_get l hL N e6 H.size) (cwV 2 hts gX4_giveHeads_X0_get rfl rfl rfl (by decide +kernel) ⟨Nat.le_of_ble_eq_true rfl, Nat.le_of_ble_eq_true rfl⟩) (z_preV (q := (RX0, TX0, 2)) hK hL hE hW hS (zK_of g3) (by decide) rfl [.int x6, .int x3]) rfl rfl hl.1 rfl (lv_room (Nat.le_of_ble_eq_true rfl)) dX4_giveHeads_37 ⟨Nat.le_of_ble_eq_true rfl, Nat.le_of_ble_eq_true rfl⟩) (fun H locs hW hS => ?_)
      refine lv_lstore (lv' := [(7, .long q5), (0, .ref (ad x0)), (1, .ref (ad x1)), (2, .int x2), (3, .int x3), (4, .long x4), (6, .int x6)]) hx hb dX4_giveHeads_40 hl (by decide) rfl (fun ls hl => ?_)
      refine lv_lload hx hb dX4_giveHeads_42 (lv_at hl 0 rfl) ?_
      refine lv_ldc2 hx hb hown (hts (.constantLong RX4 27 (-9223372036854775808)) (by decide +kernel)) dX4_giveHeads_44 ?_
      refine z_lc_eq (tgt := 97) hx hb dX4_giveHeads_47 dX4_giveHeads_48 (by decide) (fun c7 => ?_) (fun c7 => ?_)
      · have h := zip c7 h
        exact t_X4_giveHeads_97_d5 C0 N (fun h _ _ _ hW hS hl => ih h hW hS hl) h hW hS (lv_sub hl [1, 2, 3, 4, 5, 6] rfl)
      · have h := zin c7 h
        refine lv_aload_n hx hb dX4_giveHeads_51 rfl (lv_at hl 1 rfl) ?_
        refine lv_iload hx hb dX4_giveHeads_52 (lv_at hl 6 rfl) ?_
        refine lv_iload_n hx hb dX4_giveHeads_54 rfl (lv_at hl 4 rfl) ?_
        obtain ⟨q8, e9, h⟩ := zb_some h
        obtain ⟨g10, h⟩ := zg_some h
        refine z_calli hS (va_runV (As := [.int x6, .int x3]) (rest := []) ⟨hx, hb, hml, hown, hts⟩ (m_X4_closesCircle l hL N e9 H.size) (cwV 2 hts gX4_giveHeads_X4_closesCircle rfl rfl rfl (by decide +kernel) ⟨Nat.le_of_ble_eq_true rfl, Nat.le_of_ble_eq_true rfl⟩) (z_preV (q := (RX4, TX4, 3)) hK hL hE hW hS (zK_of g10) (by decide) rfl [.int x6, .int x3]) rfl rfl hl.1 rfl (lv_room (Nat.le_of_ble_eq_true rfl)) dX4_giveHeads_55 ⟨Nat.le_of_ble_eq_true rfl, Nat.le_of_ble_eq_true rfl⟩) (fun H locs hW hS => ?_)
        refine lv_if_ne (tgt := 97) hx hb dX4_giveHeads_58 (by decide) (fun c11 => ?_) (fun c11 => ?_)
        · have h := zin c11 h
          exact t_X4_giveHeads_97_d5 C0 N (fun h _ _ _ hW hS hl => ih h hW hS hl) h hW hS (lv_sub hl [1, 2, 3, 4, 5, 6] rfl)
        · have h := zip c11 h
          refine lv_iload_n hx hb dX4_giveHeads_61 rfl (lv_at hl 3 rfl) ?_
          refine lv_if_ne (tgt := 75) hx hb dX4_giveHeads_62 (by decide) (fun c12 => ?_) (fun c12 => ?_)
          · have h := zin c12 h
            exact t_X4_giveHeads_75_d5 C0 N (fun h _ _ _ hW hS hl => ih h hW hS hl) h hW hS (lv_sub hl [1, 2, 3, 4, 5, 6, 0] rfl)
          · have h := zip c12 h
            refine lv_aload_n hx hb dX4_giveHeads_65 rfl (lv_at hl 1 rfl) ?_
            refine lv_iload hx hb dX4_giveHeads_66 (lv_at hl 6 rfl) ?_
            refine lv_iload_n hx hb dX4_giveHeads_68 rfl (lv_at hl 4 rfl) ?_
            obtain ⟨q13, e14, h⟩ := zb_some h
            refine z_calli hS (va_runV (As := [.int x6, .int x3]) (rest := []) ⟨hx, hb, hml, hown, hts⟩ (m_X4_crossesEarlier l hL N e14 H.size) (cwV 2 hts gX4_giveHeads_X4_crossesEarlier rfl rfl rfl (by decide +kernel) ⟨Nat.le_of_ble_eq_true rfl, Nat.le_of_ble_eq_true rfl⟩) (z_preV (q := (RX4, TX4, 3)) hK hL hE hW hS (zK_of g10) (by decide) rfl [.int x6, .int x3]) rfl rfl hl.1 rfl (lv_room (Nat.le_of_ble_eq_true rfl)) dX4_giveHeads_69 ⟨Nat.le_of_ble_eq_true rfl, Nat.le_of_ble_eq_true rfl⟩) (fun H locs hW hS => ?_)
            refine lv_if_ne (tgt := 97) hx hb dX4_giveHeads_72 (by decide) (fun c15 => ?_) (fun c15 => ?_)
            · have h := zin c15 h
              exact t_X4_giveHeads_97_d5 C0 N (fun h _ _ _ hW hS hl => ih h hW hS hl) h hW hS (lv_sub hl [1, 2, 3, 4, 5, 6] rfl)
            · have h := zip c15 h
              exact t_X4_giveHeads_75_d5 C0 N (fun h _ _ _ hW hS hl => ih h hW hS hl) h hW hS (lv_sub hl [1, 2, 3, 4, 5, 6, 0] rfl)
set_option maxRecDepth 100000 in
set_option maxHeartbeats 4000000 in
theorem t_X4_giveHeads_14_d5 {p : Program} {l : Launch} {e : Env} {s : State} {m : MethodId} {args : Array Value} {below : List Frame} {meth : Method} {c : Code} {D : va_G} {cy : Nat → ClassId} {ad : Nat → Nat} {L : List Nat} {K len : Nat → Nat} (C0 : zCx p s m c meth args cX4_giveHeads 9 wsX4_giveHeads RX4 none D cy ad L K) (N : Nat) {x0 : Nat} {x4 : Int64} {M : ZM} {Mr : ZM} (h : f_X4_giveHeads_14 N K len (f_X4_giveHeads N K len 4) x0 x4 M = some Mr) {H : Heap} {locs : List Loc} {ls : Array Slot} (hW : zWd D cy ad L K len M H) (hS : va_S (zA ad L s.heap.size) s.heap H locs) (hl : lv_has ls 9 [(0, .ref (ad x0)), (4, .long x4)]) : W p l e (headSpec wsX4_giveHeads ({ frames := 8, cells := 0, slots := 0, locals := 214 } : Room)).room s m args below meth c H locs 0 0 (MQ below (zQv D cy ad L K len Mr s.heap.size) args s 0 0 (zA ad L s.heap.size)) (F0 m 14 ls []) := by
  obtain ⟨hx, hb, hr, hml, hown, hts, hlocks, hK, hL, hE⟩ := id C0
  unfold f_X4_giveHeads_14 at h
  refine lv_aload_n hx hb dX4_giveHeads_14 rfl (lv_at hl 0 rfl) ?_
  refine lv_lload hx hb dX4_giveHeads_15 (lv_at hl 1 rfl) ?_
  obtain ⟨M3, e2, h⟩ := zb_some h
  obtain ⟨g4, h⟩ := zg_some h
  refine z_callv hS (va_runV (As := [.long x4]) (rest := []) ⟨hx, hb, hml, hown, hts⟩ (m_X4_note l hL N e2 H.size) (cwV 1 hts gX4_giveHeads_X4_note rfl rfl rfl (by decide +kernel) ⟨Nat.le_of_ble_eq_true rfl, Nat.le_of_ble_eq_true rfl⟩) (z_preV (q := (RX4, TX4, 3)) hK hL hE hW hS (zK_of g4) (by decide) rfl [.long x4]) rfl rfl hl.1 rfl (lv_room (Nat.le_of_ble_eq_true rfl)) dX4_giveHeads_17 ⟨Nat.le_of_ble_eq_true rfl, Nat.le_of_ble_eq_true rfl⟩) (fun H locs hW hS => ?_)
  exact z_vret hx hb hr hlocks hW hS (Option.some.inj h) dX4_giveHeads_20
set_option maxRecDepth 100000 in
set_option maxHeartbeats 4000000 in
theorem t_X4_giveHeads_0_d5 {p : Program} {l : Launch} {e : Env} {s : State} {m : MethodId} {args : Array Value} {below : List Frame} {meth : Method} {c : Code} {D : va_G} {cy : Nat → ClassId} {ad : Nat → Nat} {L : List Nat} {K len : Nat → Nat} (C0 : zCx p s m c meth args cX4_giveHeads 9 wsX4_giveHeads RX4 none D cy ad L K) (N : Nat) {x0 : Nat} {x1 : Nat} {x2 : Int32} {x3 : Int32} {x4 : Int64} {M : ZM} {Mr : ZM} (h : f_X4_giveHeads_0 N K len (f_X4_giveHeads N K len 4) x0 x1 x2 x3 x4 M = some Mr) {H : Heap} {locs : List Loc} {ls : Array Slot} (hW : zWd D cy ad L K len M H) (hS : va_S (zA ad L s.heap.size) s.heap H locs) (hl : lv_has ls 9 [(0, .ref (ad x0)), (1, .ref (ad x1)), (2, .int x2), (3, .int x3), (4, .long x4)]) : W p l e (headSpec wsX4_giveHeads ({ frames := 8, cells := 0, slots := 0, locals := 214 } : Room)).room s m args below meth c H locs 0 0 (MQ below (zQv D cy ad L K len Mr s.heap.size) args s 0 0 (zA ad L s.heap.size)) (F0 m 0 ls []) := by
  obtain ⟨hx, hb, hr, hml, hown, hts, hlocks, hK, hL, hE⟩ := id C0
  unfold f_X4_giveHeads_0 at h
  refine lv_iload_n hx hb dX4_giveHeads_0 rfl (lv_at hl 3 rfl) ?_
  refine lv_aload_n hx hb dX4_giveHeads_1 rfl (lv_at hl 1 rfl) ?_
  obtain ⟨q1, e2, h⟩ := zb_some h
  obtain ⟨g3, h⟩ := zg_some h
  refine z_calli hS (va_runV (As := []) (rest := [.int x3]) ⟨hx, hb, hml, hown, hts⟩ (m_X0_size l hL N e2 H.size) (cwV 0 hts gX4_giveHeads_X0_size rfl rfl rfl (by decide +kernel) ⟨Nat.le_of_ble_eq_true rfl, Nat.le_of_ble_eq_true rfl⟩) (z_preV (q := (RX0, TX0, 2)) hK hL hE hW hS (zK_of g3) (by decide) rfl []) rfl rfl hl.1 rfl (lv_room (Nat.le_of_ble_eq_true rfl)) dX4_giveHeads_2 ⟨Nat.le_of_ble_eq_true rfl, Nat.le_of_ble_eq_true rfl⟩) (fun H locs hW hS => ?_)
  refine lv_icmp_gt (tgt := 14) hx hb dX4_giveHeads_5 (by decide) (fun c4 => ?_) (fun c4 => ?_)
  · have h := zip c4 h
    exact t_X4_giveHeads_14_d5 C0 N  h hW hS (lv_sub hl [0, 4] rfl)
  · have h := zin c4 h
    refine lv_iload_n hx hb dX4_giveHeads_8 rfl (lv_at hl 3 rfl) ?_
    refine lv_bipush (v := 6) hx hb dX4_giveHeads_9 (by decide) ?_
    refine lv_icmp_le (tgt := 21) hx hb dX4_giveHeads_11 (by decide) (fun c5 => ?_) (fun c5 => ?_)
    · have h := zip c5 h
      refine lv_iconst (v := 0) hx hb dX4_giveHeads_21 (by decide) ?_
      refine lv_istore (lv' := [(6, .int (0 : Int32)), (0, .ref (ad x0)), (1, .ref (ad x1)), (2, .int x2), (3, .int x3), (4, .long x4)]) hx hb dX4_giveHeads_22 hl (by decide) rfl (fun ls hl => ?_)
      exact t_X4_giveHeads_24_d5 C0 N  N h hW hS (lv_sub hl [1, 2, 3, 4, 5, 0] rfl)
    · have h := zin c5 h
      exact t_X4_giveHeads_14_d5 C0 N  h hW hS (lv_sub hl [0, 4] rfl)
set_option maxRecDepth 100000 in
set_option maxHeartbeats 4000000 in
theorem m_X4_giveHeads_d5 (l : Launch) {D : va_G} {cy : Nat → ClassId} {ad : Nat → Nat} {L : List Nat} {K len : Nat → Nat} (hL : zSh ad L K) (N : Nat) {a0 : Nat} {a1 : Nat} {a2 : Int32} {a3 : Int32} {a4 : Int64} {M Mr : ZM} (h : f_X4_giveHeads N K len 5 a0 a1 a2 a3 a4 M = some Mr) (sz : Nat) : Met l yX4_giveHeads wsX4_giveHeads ({ frames := 8, cells := 0, slots := 0, locals := 214 } : Room) (zPre D cy ad L K len sz [.ref (ad a0), .ref (ad a1), .int a2, .int a3, .long a4] M) (zQv D cy ad L K len Mr sz) 0 0 (zA ad L sz) :=
  z_entry (Qf := fun sz => zQv D cy ad L K len Mr sz) (av := [.ref (ad a0), .ref (ad a1), .int a2, .int a3, .long a4]) (by decide) rfl rfl hL (Nat.le_of_ble_eq_true rfl) (fun p e s m args below meth c C0 H locs ls hW hS hl => t_X4_giveHeads_0_d5 C0 N h hW hS (lv_sub hl [0, 1, 2, 3, 4] rfl))
set_option maxRecDepth 100000 in
set_option maxHeartbeats 4000000 in
theorem t_X4_giveHeads_97_d6 {p : Program} {l : Launch} {e : Env} {s : State} {m : MethodId} {args : Array Value} {below : List Frame} {meth : Method} {c : Code} {D : va_G} {cy : Nat → ClassId} {ad : Nat → Nat} {L : List Nat} {K len : Nat → Nat} (C0 : zCx p s m c meth args cX4_giveHeads 9 wsX4_giveHeads RX4 none D cy ad L K) (N : Nat) {kh24 : Nat → Nat → Int32 → Int32 → Int64 → Int32 → ZM → Option (ZM)} {x0 : Nat} {x1 : Nat} {x2 : Int32} {x3 : Int32} {x4 : Int64} {x6 : Int32} {M : ZM} {Mr : ZM} (hk24 : ∀ {y0 : Nat} {y1 : Nat} {y2 : Int32} {y3 : Int32} {y4 : Int64} {y6 : Int32} {M : ZM}, kh24 y0 y1 y2 y3 y4 y6 M = some Mr → ∀ {H : Heap} {locs : List Loc} {ls : Array Slot}, zWd D cy ad L K len M H → va_S (zA ad L s.heap.size) s.heap H locs → lv_has ls 9 [(0, .ref (ad y0)), (1, .ref (ad y1)), (2, .int y2), (3, .int y3), (4, .long y4), (6, .int y6)] → W p l e (headSpec wsX4_giveHeads ({ frames := 9, cells := 0, slots := 0, locals := 242 } : Room)).room s m args below meth c H locs 0 0 (MQ below (zQv D cy ad L K len Mr s.heap.size) args s 0 0 (zA ad L s.heap.size)) (F0 m 24 ls [])) (h : f_X4_giveHeads_97 N K len (f_X4_giveHeads N K len 5) kh24 x0 x1 x2 x3 x4 x6 M = some Mr) {H : Heap} {locs : List Loc} {ls : Array Slot} (hW : zWd D cy ad L K len M H) (hS : va_S (zA ad L s.heap.size) s.heap H locs) (hl : lv_has ls 9 [(0, .ref (ad x0)), (1, .ref (ad x1)), (2, .int x2), (3, .int x3), (4, .long x4), (6, .int x6)]) : W p l e (headSpec wsX4_giveHeads ({ frames := 9, cells := 0, slots := 0, locals := 242 } : Room)).room s m args below meth c H locs 0 0 (MQ below (zQv D cy ad L K len Mr s.heap.size) args s 0 0 (zA ad L s.heap.size)) (F0 m 97 ls []) := by
  obtain ⟨hx, hb, hr, hml, hown, hts, hlocks, hK, hL, hE⟩ := id C0
  unfold f_X4_giveHeads_97 at h
  refine lv_iinc (k := 5) (v := (x6 + 1)) (lv' := [(6, .int (x6 + 1)), (0, .ref (ad x0)), (1, .ref (ad x1)), (2, .int x2), (3, .int x3), (4, .long x4)]) hx hb dX4_giveHeads_97 hl rfl (by rw [show Int32.ofInt 1 = (1 : Int32) from by decide]) (by decide) rfl (fun ls hl => ?_)
  refine lv_goto (tgt := 24) hx hb dX4_giveHeads_100 (by decide) ?_
  exact hk24 h hW hS (lv_sub hl [1, 2, 3, 4, 5, 0] rfl)
set_option maxRecDepth 100000 in
set_option maxHeartbeats 4000000 in
theorem t_X4_giveHeads_75_d6 {p : Program} {l : Launch} {e : Env} {s : State} {m : MethodId} {args : Array Value} {below : List Frame} {meth : Method} {c : Code} {D : va_G} {cy : Nat → ClassId} {ad : Nat → Nat} {L : List Nat} {K len : Nat → Nat} (C0 : zCx p s m c meth args cX4_giveHeads 9 wsX4_giveHeads RX4 none D cy ad L K) (N : Nat) {kh24 : Nat → Nat → Int32 → Int32 → Int64 → Int32 → ZM → Option (ZM)} {x0 : Nat} {x1 : Nat} {x2 : Int32} {x3 : Int32} {x4 : Int64} {x6 : Int32} {x7 : Int64} {M : ZM} {Mr : ZM} (hk24 : ∀ {y0 : Nat} {y1 : Nat} {y2 : Int32} {y3 : Int32} {y4 : Int64} {y6 : Int32} {M : ZM}, kh24 y0 y1 y2 y3 y4 y6 M = some Mr → ∀ {H : Heap} {locs : List Loc} {ls : Array Slot}, zWd D cy ad L K len M H → va_S (zA ad L s.heap.size) s.heap H locs → lv_has ls 9 [(0, .ref (ad y0)), (1, .ref (ad y1)), (2, .int y2), (3, .int y3), (4, .long y4), (6, .int y6)] → W p l e (headSpec wsX4_giveHeads ({ frames := 9, cells := 0, slots := 0, locals := 242 } : Room)).room s m args below meth c H locs 0 0 (MQ below (zQv D cy ad L K len Mr s.heap.size) args s 0 0 (zA ad L s.heap.size)) (F0 m 24 ls [])) (h : f_X4_giveHeads_75 N K len (f_X4_giveHeads N K len 5) kh24 x0 x1 x2 x3 x4 x6 x7 M = some Mr) {H : Heap} {locs : List Loc} {ls : Array Slot} (hW : zWd D cy ad L K len M H) (hS : va_S (zA ad L s.heap.size) s.heap H locs) (hl : lv_has ls 9 [(0, .ref (ad x0)), (1, .ref (ad x1)), (2, .int x2), (3, .int x3), (4, .long x4), (6, .int x6), (7, .long x7)]) : W p l e (headSpec wsX4_giveHeads ({ frames := 9, cells := 0, slots := 0, locals := 242 } : Room)).room s m args below meth c H locs 0 0 (MQ below (zQv D cy ad L K len Mr s.heap.size) args s 0 0 (zA ad L s.heap.size)) (F0 m 75 ls []) := by
  obtain ⟨hx, hb, hr, hml, hown, hts, hlocks, hK, hL, hE⟩ := id C0
  have hinX4 : ∀ w ∈ wsX40, w ∈ wsX4_giveHeads := by decide +kernel
  unfold f_X4_giveHeads_75 at h
  refine lv_aload_n hx hb dX4_giveHeads_75 rfl (lv_at hl 0 rfl) ?_
  obtain ⟨g1, h⟩ := zg_some h
  obtain ⟨b2, e3, h⟩ := zb_some h
  refine z_get (own := RX4) (C := RX4) (T := TX4) (N := 3) (ci := 4) hx hb hts hinX4 hown hK hL hW 1 (zK_of g1) rfl (by decide) (by decide) rfl (hts (.fieldLink RX4 15 "ArcLight$Trial" "heads" "[I") (by decide +kernel)) (v := .ref (ad b2)) (zhvR e3 rfl) dX4_giveHeads_76 ?_
  refine lv_iload_n hx hb dX4_giveHeads_79 rfl (lv_at hl 3 rfl) ?_
  refine lv_iload hx hb dX4_giveHeads_80 (lv_at hl 5 rfl) ?_
  obtain ⟨g4, h⟩ := zg_some h
  refine z_iast hx hb hK hL hW hS g4 dX4_giveHeads_82 (fun H locs hW hS => ?_)
  obtain ⟨M5, eM6, h⟩ := zl_some h
  rw [← eM6] at hW
  refine lv_aload_n hx hb dX4_giveHeads_83 rfl (lv_at hl 0 rfl) ?_
  refine lv_aload_n hx hb dX4_giveHeads_84 rfl (lv_at hl 1 rfl) ?_
  refine lv_iload_n hx hb dX4_giveHeads_85 rfl (lv_at hl 2 rfl) ?_
  refine lv_iload_n hx hb dX4_giveHeads_86 rfl (lv_at hl 3 rfl) ?_
  refine lv_iconst (v := 1) hx hb dX4_giveHeads_87 (by decide) ?_
  refine lv_iadd hx hb dX4_giveHeads_88 ?_
  refine lv_lload hx hb dX4_giveHeads_89 (lv_at hl 4 rfl) ?_
  refine lv_lload hx hb dX4_giveHeads_91 (lv_at hl 6 rfl) ?_
  refine lv_ladd hx hb dX4_giveHeads_93 ?_
  obtain ⟨M9, e8, h⟩ := zb_some h
  refine z_callv hS (va_runS (As := [.ref (ad x0), .ref (ad x1), .int x2, .int (x3 + (1 : Int32)), .long (x4 + x7)]) (rest := []) ⟨hx, hb, hml, hown, hts⟩ (m_X4_giveHeads_d5 l hL N e8 H.size) (va_cwS 5 hts gX4_giveHeads_X4_giveHeads rfl rfl rfl (by decide +kernel) ⟨Nat.le_of_ble_eq_true rfl, Nat.le_of_ble_eq_true rfl⟩) (z_preS hK hE hW hS [.ref (ad x0), .ref (ad x1), .int x2, .int (x3 + (1 : Int32)), .long (x4 + x7)]) rfl rfl hl.1 rfl (lv_room (Nat.le_of_ble_eq_true rfl)) dX4_giveHeads_94 ⟨Nat.le_of_ble_eq_true rfl, Nat.le_of_ble_eq_true rfl⟩) (fun H locs hW hS => ?_)
  exact t_X4_giveHeads_97_d6 C0 N hk24 h hW hS (lv_sub hl [0, 1, 2, 3, 4, 5] rfl)
set_option maxRecDepth 100000 in
set_option maxHeartbeats 4000000 in
theorem t_X4_giveHeads_24_d6 {p : Program} {l : Launch} {e : Env} {s : State} {m : MethodId} {args : Array Value} {below : List Frame} {meth : Method} {c : Code} {D : va_G} {cy : Nat → ClassId} {ad : Nat → Nat} {L : List Nat} {K len : Nat → Nat} (C0 : zCx p s m c meth args cX4_giveHeads 9 wsX4_giveHeads RX4 none D cy ad L K) (N : Nat) {Mr : ZM} : ∀ (n : Nat) {x0 : Nat} {x1 : Nat} {x2 : Int32} {x3 : Int32} {x4 : Int64} {x6 : Int32} {M : ZM}, f_X4_giveHeads_24 N K len (f_X4_giveHeads N K len 5) n x0 x1 x2 x3 x4 x6 M = some Mr → ∀ {H : Heap} {locs : List Loc} {ls : Array Slot}, zWd D cy ad L K len M H → va_S (zA ad L s.heap.size) s.heap H locs → lv_has ls 9 [(0, .ref (ad x0)), (1, .ref (ad x1)), (2, .int x2), (3, .int x3), (4, .long x4), (6, .int x6)] → W p l e (headSpec wsX4_giveHeads ({ frames := 9, cells := 0, slots := 0, locals := 242 } : Room)).room s m args below meth c H locs 0 0 (MQ below (zQv D cy ad L K len Mr s.heap.size) args s 0 0 (zA ad L s.heap.size)) (F0 m 24 ls []) := by
  obtain ⟨hx, hb, hr, hml, hown, hts, hlocks, hK, hL, hE⟩ := id C0
  intro n
  induction n with
  | zero =>
    intro x0 x1 x2 x3 x4 x6 M h
    cases (show (none : Option (ZM)) = some Mr from h)
  | succ n ih =>
    intro x0 x1 x2 x3 x4 x6 M h H locs ls hW hS hl
    rw [f_X4_giveHeads_24] at h
    refine lv_iload hx hb dX4_giveHeads_24 (lv_at hl 5 rfl) ?_
    refine lv_aload_n hx hb dX4_giveHeads_26 rfl (lv_at hl 1 rfl) ?_
    obtain ⟨q1, e2, h⟩ := zb_some h
    obtain ⟨g3, h⟩ := zg_some h
    refine z_calli hS (va_runV (As := []) (rest := [.int x6]) ⟨hx, hb, hml, hown, hts⟩ (m_X0_size l hL N e2 H.size) (cwV 0 hts gX4_giveHeads_X0_size rfl rfl rfl (by decide +kernel) ⟨Nat.le_of_ble_eq_true rfl, Nat.le_of_ble_eq_true rfl⟩) (z_preV (q := (RX0, TX0, 2)) hK hL hE hW hS (zK_of g3) (by decide) rfl []) rfl rfl hl.1 rfl (lv_room (Nat.le_of_ble_eq_true rfl)) dX4_giveHeads_27 ⟨Nat.le_of_ble_eq_true rfl, Nat.le_of_ble_eq_true rfl⟩) (fun H locs hW hS => ?_)
    refine lv_icmp_gt (tgt := 103) hx hb dX4_giveHeads_30 (by decide) (fun c4 => ?_) (fun c4 => ?_)
    · have h := zip c4 h
      exact z_vret hx hb hr hlocks hW hS (Option.some.inj h) dX4_giveHeads_103
    · have h := zin c4 h
      refine lv_aload_n hx hb dX4_giveHeads_33 rfl (lv_at hl 1 rfl) ?_
      refine lv_iload hx hb dX4_giveHeads_34 (lv_at hl 5 rfl) ?_
      refine lv_iload_n hx hb dX4_giveHeads_36 rfl (lv_at hl 3 rfl) ?_
      obtain ⟨q5, e6, h⟩ := zb_some h
      refine z_calll hS (va_runV (As := [.int x6, .int x3]) (rest := []) ⟨hx, hb, hml, hown, hts⟩ (m_X0_get l hL N e6 H.size) (cwV 2 hts gX4_giveHeads_X0_get rfl rfl rfl (by decide +kernel) ⟨Nat.le_of_ble_eq_true rfl, Nat.le_of_ble_eq_true rfl⟩) (z_preV (q := (RX0, TX0, 2)) hK hL hE hW hS (zK_of g3) (by decide) rfl [.int x6, .int x3]) rfl rfl hl.1 rfl (lv_room (Nat.le_of_ble_eq_true rfl)) dX4_giveHeads_37 ⟨Nat.le_of_ble_eq_true rfl, Nat.le_of_ble_eq_true rfl⟩) (fun H locs hW hS => ?_)
      refine lv_lstore (lv' := [(7, .long q5), (0, .ref (ad x0)), (1, .ref (ad x1)), (2, .int x2), (3, .int x3), (4, .long x4), (6, .int x6)]) hx hb dX4_giveHeads_40 hl (by decide) rfl (fun ls hl => ?_)
      refine lv_lload hx hb dX4_giveHeads_42 (lv_at hl 0 rfl) ?_
      refine lv_ldc2 hx hb hown (hts (.constantLong RX4 27 (-9223372036854775808)) (by decide +kernel)) dX4_giveHeads_44 ?_
      refine z_lc_eq (tgt := 97) hx hb dX4_giveHeads_47 dX4_giveHeads_48 (by decide) (fun c7 => ?_) (fun c7 => ?_)
      · have h := zip c7 h
        exact t_X4_giveHeads_97_d6 C0 N (fun h _ _ _ hW hS hl => ih h hW hS hl) h hW hS (lv_sub hl [1, 2, 3, 4, 5, 6] rfl)
      · have h := zin c7 h
        refine lv_aload_n hx hb dX4_giveHeads_51 rfl (lv_at hl 1 rfl) ?_
        refine lv_iload hx hb dX4_giveHeads_52 (lv_at hl 6 rfl) ?_
        refine lv_iload_n hx hb dX4_giveHeads_54 rfl (lv_at hl 4 rfl) ?_
        obtain ⟨q8, e9, h⟩ := zb_some h
        obtain ⟨g10, h⟩ := zg_some h
        refine z_calli hS (va_runV (As := [.int x6, .int x3]) (rest := []) ⟨hx, hb, hml, hown, hts⟩ (m_X4_closesCircle l hL N e9 H.size) (cwV 2 hts gX4_giveHeads_X4_closesCircle rfl rfl rfl (by decide +kernel) ⟨Nat.le_of_ble_eq_true rfl, Nat.le_of_ble_eq_true rfl⟩) (z_preV (q := (RX4, TX4, 3)) hK hL hE hW hS (zK_of g10) (by decide) rfl [.int x6, .int x3]) rfl rfl hl.1 rfl (lv_room (Nat.le_of_ble_eq_true rfl)) dX4_giveHeads_55 ⟨Nat.le_of_ble_eq_true rfl, Nat.le_of_ble_eq_true rfl⟩) (fun H locs hW hS => ?_)
        refine lv_if_ne (tgt := 97) hx hb dX4_giveHeads_58 (by decide) (fun c11 => ?_) (fun c11 => ?_)
        · have h := zin c11 h
          exact t_X4_giveHeads_97_d6 C0 N (fun h _ _ _ hW hS hl => ih h hW hS hl) h hW hS (lv_sub hl [1, 2, 3, 4, 5, 6] rfl)
        · have h := zip c11 h
          refine lv_iload_n hx hb dX4_giveHeads_61 rfl (lv_at hl 3 rfl) ?_
          refine lv_if_ne (tgt := 75) hx hb dX4_giveHeads_62 (by decide) (fun c12 => ?_) (fun c12 => ?_)
          · have h := zin c12 h
            exact t_X4_giveHeads_75_d6 C0 N (fun h _ _ _ hW hS hl => ih h hW hS hl) h hW hS (lv_sub hl [1, 2, 3, 4, 5, 6, 0] rfl)
          · have h := zip c12 h
            refine lv_aload_n hx hb dX4_giveHeads_65 rfl (lv_at hl 1 rfl) ?_
            refine lv_iload hx hb dX4_giveHeads_66 (lv_at hl 6 rfl) ?_
            refine lv_iload_n hx hb dX4_giveHeads_68 rfl (lv_at hl 4 rfl) ?_
            obtain ⟨q13, e14, h⟩ := zb_some h
            refine z_calli hS (va_runV (As := [.int x6, .int x3]) (rest := []) ⟨hx, hb, hml, hown, hts⟩ (m_X4_crossesEarlier l hL N e14 H.size) (cwV 2 hts gX4_giveHeads_X4_crossesEarlier rfl rfl rfl (by decide +kernel) ⟨Nat.le_of_ble_eq_true rfl, Nat.le_of_ble_eq_true rfl⟩) (z_preV (q := (RX4, TX4, 3)) hK hL hE hW hS (zK_of g10) (by decide) rfl [.int x6, .int x3]) rfl rfl hl.1 rfl (lv_room (Nat.le_of_ble_eq_true rfl)) dX4_giveHeads_69 ⟨Nat.le_of_ble_eq_true rfl, Nat.le_of_ble_eq_true rfl⟩) (fun H locs hW hS => ?_)
            refine lv_if_ne (tgt := 97) hx hb dX4_giveHeads_72 (by decide) (fun c15 => ?_) (fun c15 => ?_)
            · have h := zin c15 h
              exact t_X4_giveHeads_97_d6 C0 N (fun h _ _ _ hW hS hl => ih h hW hS hl) h hW hS (lv_sub hl [1, 2, 3, 4, 5, 6] rfl)
            · have h := zip c15 h
              exact t_X4_giveHeads_75_d6 C0 N (fun h _ _ _ hW hS hl => ih h hW hS hl) h hW hS (lv_sub hl [1, 2, 3, 4, 5, 6, 0] rfl)
set_option maxRecDepth 100000 in
set_option maxHeartbeats 4000000 in
theorem t_X4_giveHeads_14_d6 {p : Program} {l : Launch} {e : Env} {s : State} {m : MethodId} {args : Array Value} {below : List Frame} {meth : Method} {c : Code} {D : va_G} {cy : Nat → ClassId} {ad : Nat → Nat} {L : List Nat} {K len : Nat → Nat} (C0 : zCx p s m c meth args cX4_giveHeads 9 wsX4_giveHeads RX4 none D cy ad L K) (N : Nat) {x0 : Nat} {x4 : Int64} {M : ZM} {Mr : ZM} (h : f_X4_giveHeads_14 N K len (f_X4_giveHeads N K len 5) x0 x4 M = some Mr) {H : Heap} {locs : List Loc} {ls : Array Slot} (hW : zWd D cy ad L K len M H) (hS : va_S (zA ad L s.heap.size) s.heap H locs) (hl : lv_has ls 9 [(0, .ref (ad x0)), (4, .long x4)]) : W p l e (headSpec wsX4_giveHeads ({ frames := 9, cells := 0, slots := 0, locals := 242 } : Room)).room s m args below meth c H locs 0 0 (MQ below (zQv D cy ad L K len Mr s.heap.size) args s 0 0 (zA ad L s.heap.size)) (F0 m 14 ls []) := by
  obtain ⟨hx, hb, hr, hml, hown, hts, hlocks, hK, hL, hE⟩ := id C0
  unfold f_X4_giveHeads_14 at h
  refine lv_aload_n hx hb dX4_giveHeads_14 rfl (lv_at hl 0 rfl) ?_
  refine lv_lload hx hb dX4_giveHeads_15 (lv_at hl 1 rfl) ?_
  obtain ⟨M3, e2, h⟩ := zb_some h
  obtain ⟨g4, h⟩ := zg_some h
  refine z_callv hS (va_runV (As := [.long x4]) (rest := []) ⟨hx, hb, hml, hown, hts⟩ (m_X4_note l hL N e2 H.size) (cwV 1 hts gX4_giveHeads_X4_note rfl rfl rfl (by decide +kernel) ⟨Nat.le_of_ble_eq_true rfl, Nat.le_of_ble_eq_true rfl⟩) (z_preV (q := (RX4, TX4, 3)) hK hL hE hW hS (zK_of g4) (by decide) rfl [.long x4]) rfl rfl hl.1 rfl (lv_room (Nat.le_of_ble_eq_true rfl)) dX4_giveHeads_17 ⟨Nat.le_of_ble_eq_true rfl, Nat.le_of_ble_eq_true rfl⟩) (fun H locs hW hS => ?_)
  exact z_vret hx hb hr hlocks hW hS (Option.some.inj h) dX4_giveHeads_20
set_option maxRecDepth 100000 in
set_option maxHeartbeats 4000000 in
theorem t_X4_giveHeads_0_d6 {p : Program} {l : Launch} {e : Env} {s : State} {m : MethodId} {args : Array Value} {below : List Frame} {meth : Method} {c : Code} {D : va_G} {cy : Nat → ClassId} {ad : Nat → Nat} {L : List Nat} {K len : Nat → Nat} (C0 : zCx p s m c meth args cX4_giveHeads 9 wsX4_giveHeads RX4 none D cy ad L K) (N : Nat) {x0 : Nat} {x1 : Nat} {x2 : Int32} {x3 : Int32} {x4 : Int64} {M : ZM} {Mr : ZM} (h : f_X4_giveHeads_0 N K len (f_X4_giveHeads N K len 5) x0 x1 x2 x3 x4 M = some Mr) {H : Heap} {locs : List Loc} {ls : Array Slot} (hW : zWd D cy ad L K len M H) (hS : va_S (zA ad L s.heap.size) s.heap H locs) (hl : lv_has ls 9 [(0, .ref (ad x0)), (1, .ref (ad x1)), (2, .int x2), (3, .int x3), (4, .long x4)]) : W p l e (headSpec wsX4_giveHeads ({ frames := 9, cells := 0, slots := 0, locals := 242 } : Room)).room s m args below meth c H locs 0 0 (MQ below (zQv D cy ad L K len Mr s.heap.size) args s 0 0 (zA ad L s.heap.size)) (F0 m 0 ls []) := by
  obtain ⟨hx, hb, hr, hml, hown, hts, hlocks, hK, hL, hE⟩ := id C0
  unfold f_X4_giveHeads_0 at h
  refine lv_iload_n hx hb dX4_giveHeads_0 rfl (lv_at hl 3 rfl) ?_
  refine lv_aload_n hx hb dX4_giveHeads_1 rfl (lv_at hl 1 rfl) ?_
  obtain ⟨q1, e2, h⟩ := zb_some h
  obtain ⟨g3, h⟩ := zg_some h
  refine z_calli hS (va_runV (As := []) (rest := [.int x3]) ⟨hx, hb, hml, hown, hts⟩ (m_X0_size l hL N e2 H.size) (cwV 0 hts gX4_giveHeads_X0_size rfl rfl rfl (by decide +kernel) ⟨Nat.le_of_ble_eq_true rfl, Nat.le_of_ble_eq_true rfl⟩) (z_preV (q := (RX0, TX0, 2)) hK hL hE hW hS (zK_of g3) (by decide) rfl []) rfl rfl hl.1 rfl (lv_room (Nat.le_of_ble_eq_true rfl)) dX4_giveHeads_2 ⟨Nat.le_of_ble_eq_true rfl, Nat.le_of_ble_eq_true rfl⟩) (fun H locs hW hS => ?_)
  refine lv_icmp_gt (tgt := 14) hx hb dX4_giveHeads_5 (by decide) (fun c4 => ?_) (fun c4 => ?_)
  · have h := zip c4 h
    exact t_X4_giveHeads_14_d6 C0 N  h hW hS (lv_sub hl [0, 4] rfl)
  · have h := zin c4 h
    refine lv_iload_n hx hb dX4_giveHeads_8 rfl (lv_at hl 3 rfl) ?_
    refine lv_bipush (v := 6) hx hb dX4_giveHeads_9 (by decide) ?_
    refine lv_icmp_le (tgt := 21) hx hb dX4_giveHeads_11 (by decide) (fun c5 => ?_) (fun c5 => ?_)
    · have h := zip c5 h
      refine lv_iconst (v := 0) hx hb dX4_giveHeads_21 (by decide) ?_
      refine lv_istore (lv' := [(6, .int (0 : Int32)), (0, .ref (ad x0)), (1, .ref (ad x1)), (2, .int x2), (3, .int x3), (4, .long x4)]) hx hb dX4_giveHeads_22 hl (by decide) rfl (fun ls hl => ?_)
      exact t_X4_giveHeads_24_d6 C0 N  N h hW hS (lv_sub hl [1, 2, 3, 4, 5, 0] rfl)
    · have h := zin c5 h
      exact t_X4_giveHeads_14_d6 C0 N  h hW hS (lv_sub hl [0, 4] rfl)
set_option maxRecDepth 100000 in
set_option maxHeartbeats 4000000 in
theorem m_X4_giveHeads_d6 (l : Launch) {D : va_G} {cy : Nat → ClassId} {ad : Nat → Nat} {L : List Nat} {K len : Nat → Nat} (hL : zSh ad L K) (N : Nat) {a0 : Nat} {a1 : Nat} {a2 : Int32} {a3 : Int32} {a4 : Int64} {M Mr : ZM} (h : f_X4_giveHeads N K len 6 a0 a1 a2 a3 a4 M = some Mr) (sz : Nat) : Met l yX4_giveHeads wsX4_giveHeads ({ frames := 9, cells := 0, slots := 0, locals := 242 } : Room) (zPre D cy ad L K len sz [.ref (ad a0), .ref (ad a1), .int a2, .int a3, .long a4] M) (zQv D cy ad L K len Mr sz) 0 0 (zA ad L sz) :=
  z_entry (Qf := fun sz => zQv D cy ad L K len Mr sz) (av := [.ref (ad a0), .ref (ad a1), .int a2, .int a3, .long a4]) (by decide) rfl rfl hL (Nat.le_of_ble_eq_true rfl) (fun p e s m args below meth c C0 H locs ls hW hS hl => t_X4_giveHeads_0_d6 C0 N h hW hS (lv_sub hl [0, 1, 2, 3, 4] rfl))
set_option maxRecDepth 100000 in
set_option maxHeartbeats 4000000 in
theorem t_X4_giveHeads_97_d7 {p : Program} {l : Launch} {e : Env} {s : State} {m : MethodId} {args : Array Value} {below : List Frame} {meth : Method} {c : Code} {D : va_G} {cy : Nat → ClassId} {ad : Nat → Nat} {L : List Nat} {K len : Nat → Nat} (C0 : zCx p s m c meth args cX4_giveHeads 9 wsX4_giveHeads RX4 none D cy ad L K) (N : Nat) {kh24 : Nat → Nat → Int32 → Int32 → Int64 → Int32 → ZM → Option (ZM)} {x0 : Nat} {x1 : Nat} {x2 : Int32} {x3 : Int32} {x4 : Int64} {x6 : Int32} {M : ZM} {Mr : ZM} (hk24 : ∀ {y0 : Nat} {y1 : Nat} {y2 : Int32} {y3 : Int32} {y4 : Int64} {y6 : Int32} {M : ZM}, kh24 y0 y1 y2 y3 y4 y6 M = some Mr → ∀ {H : Heap} {locs : List Loc} {ls : Array Slot}, zWd D cy ad L K len M H → va_S (zA ad L s.heap.size) s.heap H locs → lv_has ls 9 [(0, .ref (ad y0)), (1, .ref (ad y1)), (2, .int y2), (3, .int y3), (4, .long y4), (6, .int y6)] → W p l e (headSpec wsX4_giveHeads ({ frames := 10, cells := 0, slots := 0, locals := 270 } : Room)).room s m args below meth c H locs 0 0 (MQ below (zQv D cy ad L K len Mr s.heap.size) args s 0 0 (zA ad L s.heap.size)) (F0 m 24 ls [])) (h : f_X4_giveHeads_97 N K len (f_X4_giveHeads N K len 6) kh24 x0 x1 x2 x3 x4 x6 M = some Mr) {H : Heap} {locs : List Loc} {ls : Array Slot} (hW : zWd D cy ad L K len M H) (hS : va_S (zA ad L s.heap.size) s.heap H locs) (hl : lv_has ls 9 [(0, .ref (ad x0)), (1, .ref (ad x1)), (2, .int x2), (3, .int x3), (4, .long x4), (6, .int x6)]) : W p l e (headSpec wsX4_giveHeads ({ frames := 10, cells := 0, slots := 0, locals := 270 } : Room)).room s m args below meth c H locs 0 0 (MQ below (zQv D cy ad L K len Mr s.heap.size) args s 0 0 (zA ad L s.heap.size)) (F0 m 97 ls []) := by
  obtain ⟨hx, hb, hr, hml, hown, hts, hlocks, hK, hL, hE⟩ := id C0
  unfold f_X4_giveHeads_97 at h
  refine lv_iinc (k := 5) (v := (x6 + 1)) (lv' := [(6, .int (x6 + 1)), (0, .ref (ad x0)), (1, .ref (ad x1)), (2, .int x2), (3, .int x3), (4, .long x4)]) hx hb dX4_giveHeads_97 hl rfl (by rw [show Int32.ofInt 1 = (1 : Int32) from by decide]) (by decide) rfl (fun ls hl => ?_)
  refine lv_goto (tgt := 24) hx hb dX4_giveHeads_100 (by decide) ?_
  exact hk24 h hW hS (lv_sub hl [1, 2, 3, 4, 5, 0] rfl)
set_option maxRecDepth 100000 in
set_option maxHeartbeats 4000000 in
theorem t_X4_giveHeads_75_d7 {p : Program} {l : Launch} {e : Env} {s : State} {m : MethodId} {args : Array Value} {below : List Frame} {meth : Method} {c : Code} {D : va_G} {cy : Nat → ClassId} {ad : Nat → Nat} {L : List Nat} {K len : Nat → Nat} (C0 : zCx p s m c meth args cX4_giveHeads 9 wsX4_giveHeads RX4 none D cy ad L K) (N : Nat) {kh24 : Nat → Nat → Int32 → Int32 → Int64 → Int32 → ZM → Option (ZM)} {x0 : Nat} {x1 : Nat} {x2 : Int32} {x3 : Int32} {x4 : Int64} {x6 : Int32} {x7 : Int64} {M : ZM} {Mr : ZM} (hk24 : ∀ {y0 : Nat} {y1 : Nat} {y2 : Int32} {y3 : Int32} {y4 : Int64} {y6 : Int32} {M : ZM}, kh24 y0 y1 y2 y3 y4 y6 M = some Mr → ∀ {H : Heap} {locs : List Loc} {ls : Array Slot}, zWd D cy ad L K len M H → va_S (zA ad L s.heap.size) s.heap H locs → lv_has ls 9 [(0, .ref (ad y0)), (1, .ref (ad y1)), (2, .int y2), (3, .int y3), (4, .long y4), (6, .int y6)] → W p l e (headSpec wsX4_giveHeads ({ frames := 10, cells := 0, slots := 0, locals := 270 } : Room)).room s m args below meth c H locs 0 0 (MQ below (zQv D cy ad L K len Mr s.heap.size) args s 0 0 (zA ad L s.heap.size)) (F0 m 24 ls [])) (h : f_X4_giveHeads_75 N K len (f_X4_giveHeads N K len 6) kh24 x0 x1 x2 x3 x4 x6 x7 M = some Mr) {H : Heap} {locs : List Loc} {ls : Array Slot} (hW : zWd D cy ad L K len M H) (hS : va_S (zA ad L s.heap.size) s.heap H locs) (hl : lv_has ls 9 [(0, .ref (ad x0)), (1, .ref (ad x1)), (2, .int x2), (3, .int x3), (4, .long x4), (6, .int x6), (7, .long x7)]) : W p l e (headSpec wsX4_giveHeads ({ frames := 10, cells := 0, slots := 0, locals := 270 } : Room)).room s m args below meth c H locs 0 0 (MQ below (zQv D cy ad L K len Mr s.heap.size) args s 0 0 (zA ad L s.heap.size)) (F0 m 75 ls []) := by
  obtain ⟨hx, hb, hr, hml, hown, hts, hlocks, hK, hL, hE⟩ := id C0
  have hinX4 : ∀ w ∈ wsX40, w ∈ wsX4_giveHeads := by decide +kernel
  unfold f_X4_giveHeads_75 at h
  refine lv_aload_n hx hb dX4_giveHeads_75 rfl (lv_at hl 0 rfl) ?_
  obtain ⟨g1, h⟩ := zg_some h
  obtain ⟨b2, e3, h⟩ := zb_some h
  refine z_get (own := RX4) (C := RX4) (T := TX4) (N := 3) (ci := 4) hx hb hts hinX4 hown hK hL hW 1 (zK_of g1) rfl (by decide) (by decide) rfl (hts (.fieldLink RX4 15 "ArcLight$Trial" "heads" "[I") (by decide +kernel)) (v := .ref (ad b2)) (zhvR e3 rfl) dX4_giveHeads_76 ?_
  refine lv_iload_n hx hb dX4_giveHeads_79 rfl (lv_at hl 3 rfl) ?_
  refine lv_iload hx hb dX4_giveHeads_80 (lv_at hl 5 rfl) ?_
  obtain ⟨g4, h⟩ := zg_some h
  refine z_iast hx hb hK hL hW hS g4 dX4_giveHeads_82 (fun H locs hW hS => ?_)
  obtain ⟨M5, eM6, h⟩ := zl_some h
  rw [← eM6] at hW
  refine lv_aload_n hx hb dX4_giveHeads_83 rfl (lv_at hl 0 rfl) ?_
  refine lv_aload_n hx hb dX4_giveHeads_84 rfl (lv_at hl 1 rfl) ?_
  refine lv_iload_n hx hb dX4_giveHeads_85 rfl (lv_at hl 2 rfl) ?_
  refine lv_iload_n hx hb dX4_giveHeads_86 rfl (lv_at hl 3 rfl) ?_
  refine lv_iconst (v := 1) hx hb dX4_giveHeads_87 (by decide) ?_
  refine lv_iadd hx hb dX4_giveHeads_88 ?_
  refine lv_lload hx hb dX4_giveHeads_89 (lv_at hl 4 rfl) ?_
  refine lv_lload hx hb dX4_giveHeads_91 (lv_at hl 6 rfl) ?_
  refine lv_ladd hx hb dX4_giveHeads_93 ?_
  obtain ⟨M9, e8, h⟩ := zb_some h
  refine z_callv hS (va_runS (As := [.ref (ad x0), .ref (ad x1), .int x2, .int (x3 + (1 : Int32)), .long (x4 + x7)]) (rest := []) ⟨hx, hb, hml, hown, hts⟩ (m_X4_giveHeads_d6 l hL N e8 H.size) (va_cwS 5 hts gX4_giveHeads_X4_giveHeads rfl rfl rfl (by decide +kernel) ⟨Nat.le_of_ble_eq_true rfl, Nat.le_of_ble_eq_true rfl⟩) (z_preS hK hE hW hS [.ref (ad x0), .ref (ad x1), .int x2, .int (x3 + (1 : Int32)), .long (x4 + x7)]) rfl rfl hl.1 rfl (lv_room (Nat.le_of_ble_eq_true rfl)) dX4_giveHeads_94 ⟨Nat.le_of_ble_eq_true rfl, Nat.le_of_ble_eq_true rfl⟩) (fun H locs hW hS => ?_)
  exact t_X4_giveHeads_97_d7 C0 N hk24 h hW hS (lv_sub hl [0, 1, 2, 3, 4, 5] rfl)
set_option maxRecDepth 100000 in
set_option maxHeartbeats 4000000 in
theorem t_X4_giveHeads_24_d7 {p : Program} {l : Launch} {e : Env} {s : State} {m : MethodId} {args : Array Value} {below : List Frame} {meth : Method} {c : Code} {D : va_G} {cy : Nat → ClassId} {ad : Nat → Nat} {L : List Nat} {K len : Nat → Nat} (C0 : zCx p s m c meth args cX4_giveHeads 9 wsX4_giveHeads RX4 none D cy ad L K) (N : Nat) {Mr : ZM} : ∀ (n : Nat) {x0 : Nat} {x1 : Nat} {x2 : Int32} {x3 : Int32} {x4 : Int64} {x6 : Int32} {M : ZM}, f_X4_giveHeads_24 N K len (f_X4_giveHeads N K len 6) n x0 x1 x2 x3 x4 x6 M = some Mr → ∀ {H : Heap} {locs : List Loc} {ls : Array Slot}, zWd D cy ad L K len M H → va_S (zA ad L s.heap.size) s.heap H locs → lv_has ls 9 [(0, .ref (ad x0)), (1, .ref (ad x1)), (2, .int x2), (3, .int x3), (4, .long x4), (6, .int x6)] → W p l e (headSpec wsX4_giveHeads ({ frames := 10, cells := 0, slots := 0, locals := 270 } : Room)).room s m args below meth c H locs 0 0 (MQ below (zQv D cy ad L K len Mr s.heap.size) args s 0 0 (zA ad L s.heap.size)) (F0 m 24 ls []) := by
  obtain ⟨hx, hb, hr, hml, hown, hts, hlocks, hK, hL, hE⟩ := id C0
  intro n
  induction n with
  | zero =>
    intro x0 x1 x2 x3 x4 x6 M h
    cases (show (none : Option (ZM)) = some Mr from h)
  | succ n ih =>
    intro x0 x1 x2 x3 x4 x6 M h H locs ls hW hS hl
    rw [f_X4_giveHeads_24] at h
    refine lv_iload hx hb dX4_giveHeads_24 (lv_at hl 5 rfl) ?_
    refine lv_aload_n hx hb dX4_giveHeads_26 rfl (lv_at hl 1 rfl) ?_
    obtain ⟨q1, e2, h⟩ := zb_some h
    obtain ⟨g3, h⟩ := zg_some h
    refine z_calli hS (va_runV (As := []) (rest := [.int x6]) ⟨hx, hb, hml, hown, hts⟩ (m_X0_size l hL N e2 H.size) (cwV 0 hts gX4_giveHeads_X0_size rfl rfl rfl (by decide +kernel) ⟨Nat.le_of_ble_eq_true rfl, Nat.le_of_ble_eq_true rfl⟩) (z_preV (q := (RX0, TX0, 2)) hK hL hE hW hS (zK_of g3) (by decide) rfl []) rfl rfl hl.1 rfl (lv_room (Nat.le_of_ble_eq_true rfl)) dX4_giveHeads_27 ⟨Nat.le_of_ble_eq_true rfl, Nat.le_of_ble_eq_true rfl⟩) (fun H locs hW hS => ?_)
    refine lv_icmp_gt (tgt := 103) hx hb dX4_giveHeads_30 (by decide) (fun c4 => ?_) (fun c4 => ?_)
    · have h := zip c4 h
      exact z_vret hx hb hr hlocks hW hS (Option.some.inj h) dX4_giveHeads_103
    · have h := zin c4 h
      refine lv_aload_n hx hb dX4_giveHeads_33 rfl (lv_at hl 1 rfl) ?_
      refine lv_iload hx hb dX4_giveHeads_34 (lv_at hl 5 rfl) ?_
      refine lv_iload_n hx hb dX4_giveHeads_36 rfl (lv_at hl 3 rfl) ?_
      obtain ⟨q5, e6, h⟩ := zb_some h
      refine z_calll hS (va_runV (As := [.int x6, .int x3]) (rest := []) ⟨hx, hb, hml, hown, hts⟩ (m_X0_get l hL N e6 H.size) (cwV 2 hts gX4_giveHeads_X0_get rfl rfl rfl (by decide +kernel) ⟨Nat.le_of_ble_eq_true rfl, Nat.le_of_ble_eq_true rfl⟩) (z_preV (q := (RX0, TX0, 2)) hK hL hE hW hS (zK_of g3) (by decide) rfl [.int x6, .int x3]) rfl rfl hl.1 rfl (lv_room (Nat.le_of_ble_eq_true rfl)) dX4_giveHeads_37 ⟨Nat.le_of_ble_eq_true rfl, Nat.le_of_ble_eq_true rfl⟩) (fun H locs hW hS => ?_)
      refine lv_lstore (lv' := [(7, .long q5), (0, .ref (ad x0)), (1, .ref (ad x1)), (2, .int x2), (3, .int x3), (4, .long x4), (6, .int x6)]) hx hb dX4_giveHeads_40 hl (by decide) rfl (fun ls hl => ?_)
      refine lv_lload hx hb dX4_giveHeads_42 (lv_at hl 0 rfl) ?_
      refine lv_ldc2 hx hb hown (hts (.constantLong RX4 27 (-9223372036854775808)) (by decide +kernel)) dX4_giveHeads_44 ?_
      refine z_lc_eq (tgt := 97) hx hb dX4_giveHeads_47 dX4_giveHeads_48 (by decide) (fun c7 => ?_) (fun c7 => ?_)
      · have h := zip c7 h
        exact t_X4_giveHeads_97_d7 C0 N (fun h _ _ _ hW hS hl => ih h hW hS hl) h hW hS (lv_sub hl [1, 2, 3, 4, 5, 6] rfl)
      · have h := zin c7 h
        refine lv_aload_n hx hb dX4_giveHeads_51 rfl (lv_at hl 1 rfl) ?_
        refine lv_iload hx hb dX4_giveHeads_52 (lv_at hl 6 rfl) ?_
        refine lv_iload_n hx hb dX4_giveHeads_54 rfl (lv_at hl 4 rfl) ?_
        obtain ⟨q8, e9, h⟩ := zb_some h
        obtain ⟨g10, h⟩ := zg_some h
        refine z_calli hS (va_runV (As := [.int x6, .int x3]) (rest := []) ⟨hx, hb, hml, hown, hts⟩ (m_X4_closesCircle l hL N e9 H.size) (cwV 2 hts gX4_giveHeads_X4_closesCircle rfl rfl rfl (by decide +kernel) ⟨Nat.le_of_ble_eq_true rfl, Nat.le_of_ble_eq_true rfl⟩) (z_preV (q := (RX4, TX4, 3)) hK hL hE hW hS (zK_of g10) (by decide) rfl [.int x6, .int x3]) rfl rfl hl.1 rfl (lv_room (Nat.le_of_ble_eq_true rfl)) dX4_giveHeads_55 ⟨Nat.le_of_ble_eq_true rfl, Nat.le_of_ble_eq_true rfl⟩) (fun H locs hW hS => ?_)
        refine lv_if_ne (tgt := 97) hx hb dX4_giveHeads_58 (by decide) (fun c11 => ?_) (fun c11 => ?_)
        · have h := zin c11 h
          exact t_X4_giveHeads_97_d7 C0 N (fun h _ _ _ hW hS hl => ih h hW hS hl) h hW hS (lv_sub hl [1, 2, 3, 4, 5, 6] rfl)
        · have h := zip c11 h
          refine lv_iload_n hx hb dX4_giveHeads_61 rfl (lv_at hl 3 rfl) ?_
          refine lv_if_ne (tgt := 75) hx hb dX4_giveHeads_62 (by decide) (fun c12 => ?_) (fun c12 => ?_)
          · have h := zin c12 h
            exact t_X4_giveHeads_75_d7 C0 N (fun h _ _ _ hW hS hl => ih h hW hS hl) h hW hS (lv_sub hl [1, 2, 3, 4, 5, 6, 0] rfl)
          · have h := zip c12 h
            refine lv_aload_n hx hb dX4_giveHeads_65 rfl (lv_at hl 1 rfl) ?_
            refine lv_iload hx hb dX4_giveHeads_66 (lv_at hl 6 rfl) ?_
            refine lv_iload_n hx hb dX4_giveHeads_68 rfl (lv_at hl 4 rfl) ?_
            obtain ⟨q13, e14, h⟩ := zb_some h
            refine z_calli hS (va_runV (As := [.int x6, .int x3]) (rest := []) ⟨hx, hb, hml, hown, hts⟩ (m_X4_crossesEarlier l hL N e14 H.size) (cwV 2 hts gX4_giveHeads_X4_crossesEarlier rfl rfl rfl (by decide +kernel) ⟨Nat.le_of_ble_eq_true rfl, Nat.le_of_ble_eq_true rfl⟩) (z_preV (q := (RX4, TX4, 3)) hK hL hE hW hS (zK_of g10) (by decide) rfl [.int x6, .int x3]) rfl rfl hl.1 rfl (lv_room (Nat.le_of_ble_eq_true rfl)) dX4_giveHeads_69 ⟨Nat.le_of_ble_eq_true rfl, Nat.le_of_ble_eq_true rfl⟩) (fun H locs hW hS => ?_)
            refine lv_if_ne (tgt := 97) hx hb dX4_giveHeads_72 (by decide) (fun c15 => ?_) (fun c15 => ?_)
            · have h := zin c15 h
              exact t_X4_giveHeads_97_d7 C0 N (fun h _ _ _ hW hS hl => ih h hW hS hl) h hW hS (lv_sub hl [1, 2, 3, 4, 5, 6] rfl)
            · have h := zip c15 h
              exact t_X4_giveHeads_75_d7 C0 N (fun h _ _ _ hW hS hl => ih h hW hS hl) h hW hS (lv_sub hl [1, 2, 3, 4, 5, 6, 0] rfl)
set_option maxRecDepth 100000 in
set_option maxHeartbeats 4000000 in
theorem t_X4_giveHeads_14_d7 {p : Program} {l : Launch} {e : Env} {s : State} {m : MethodId} {args : Array Value} {below : List Frame} {meth : Method} {c : Code} {D : va_G} {cy : Nat → ClassId} {ad : Nat → Nat} {L : List Nat} {K len : Nat → Nat} (C0 : zCx p s m c meth args cX4_giveHeads 9 wsX4_giveHeads RX4 none D cy ad L K) (N : Nat) {x0 : Nat} {x4 : Int64} {M : ZM} {Mr : ZM} (h : f_X4_giveHeads_14 N K len (f_X4_giveHeads N K len 6) x0 x4 M = some Mr) {H : Heap} {locs : List Loc} {ls : Array Slot} (hW : zWd D cy ad L K len M H) (hS : va_S (zA ad L s.heap.size) s.heap H locs) (hl : lv_has ls 9 [(0, .ref (ad x0)), (4, .long x4)]) : W p l e (headSpec wsX4_giveHeads ({ frames := 10, cells := 0, slots := 0, locals := 270 } : Room)).room s m args below meth c H locs 0 0 (MQ below (zQv D cy ad L K len Mr s.heap.size) args s 0 0 (zA ad L s.heap.size)) (F0 m 14 ls []) := by
  obtain ⟨hx, hb, hr, hml, hown, hts, hlocks, hK, hL, hE⟩ := id C0
  unfold f_X4_giveHeads_14 at h
  refine lv_aload_n hx hb dX4_giveHeads_14 rfl (lv_at hl 0 rfl) ?_
  refine lv_lload hx hb dX4_giveHeads_15 (lv_at hl 1 rfl) ?_
  obtain ⟨M3, e2, h⟩ := zb_some h
  obtain ⟨g4, h⟩ := zg_some h
  refine z_callv hS (va_runV (As := [.long x4]) (rest := []) ⟨hx, hb, hml, hown, hts⟩ (m_X4_note l hL N e2 H.size) (cwV 1 hts gX4_giveHeads_X4_note rfl rfl rfl (by decide +kernel) ⟨Nat.le_of_ble_eq_true rfl, Nat.le_of_ble_eq_true rfl⟩) (z_preV (q := (RX4, TX4, 3)) hK hL hE hW hS (zK_of g4) (by decide) rfl [.long x4]) rfl rfl hl.1 rfl (lv_room (Nat.le_of_ble_eq_true rfl)) dX4_giveHeads_17 ⟨Nat.le_of_ble_eq_true rfl, Nat.le_of_ble_eq_true rfl⟩) (fun H locs hW hS => ?_)
  exact z_vret hx hb hr hlocks hW hS (Option.some.inj h) dX4_giveHeads_20
set_option maxRecDepth 100000 in
set_option maxHeartbeats 4000000 in
theorem t_X4_giveHeads_0_d7 {p : Program} {l : Launch} {e : Env} {s : State} {m : MethodId} {args : Array Value} {below : List Frame} {meth : Method} {c : Code} {D : va_G} {cy : Nat → ClassId} {ad : Nat → Nat} {L : List Nat} {K len : Nat → Nat} (C0 : zCx p s m c meth args cX4_giveHeads 9 wsX4_giveHeads RX4 none D cy ad L K) (N : Nat) {x0 : Nat} {x1 : Nat} {x2 : Int32} {x3 : Int32} {x4 : Int64} {M : ZM} {Mr : ZM} (h : f_X4_giveHeads_0 N K len (f_X4_giveHeads N K len 6) x0 x1 x2 x3 x4 M = some Mr) {H : Heap} {locs : List Loc} {ls : Array Slot} (hW : zWd D cy ad L K len M H) (hS : va_S (zA ad L s.heap.size) s.heap H locs) (hl : lv_has ls 9 [(0, .ref (ad x0)), (1, .ref (ad x1)), (2, .int x2), (3, .int x3), (4, .long x4)]) : W p l e (headSpec wsX4_giveHeads ({ frames := 10, cells := 0, slots := 0, locals := 270 } : Room)).room s m args below meth c H locs 0 0 (MQ below (zQv D cy ad L K len Mr s.heap.size) args s 0 0 (zA ad L s.heap.size)) (F0 m 0 ls []) := by
  obtain ⟨hx, hb, hr, hml, hown, hts, hlocks, hK, hL, hE⟩ := id C0
  unfold f_X4_giveHeads_0 at h
  refine lv_iload_n hx hb dX4_giveHeads_0 rfl (lv_at hl 3 rfl) ?_
  refine lv_aload_n hx hb dX4_giveHeads_1 rfl (lv_at hl 1 rfl) ?_
  obtain ⟨q1, e2, h⟩ := zb_some h
  obtain ⟨g3, h⟩ := zg_some h
  refine z_calli hS (va_runV (As := []) (rest := [.int x3]) ⟨hx, hb, hml, hown, hts⟩ (m_X0_size l hL N e2 H.size) (cwV 0 hts gX4_giveHeads_X0_size rfl rfl rfl (by decide +kernel) ⟨Nat.le_of_ble_eq_true rfl, Nat.le_of_ble_eq_true rfl⟩) (z_preV (q := (RX0, TX0, 2)) hK hL hE hW hS (zK_of g3) (by decide) rfl []) rfl rfl hl.1 rfl (lv_room (Nat.le_of_ble_eq_true rfl)) dX4_giveHeads_2 ⟨Nat.le_of_ble_eq_true rfl, Nat.le_of_ble_eq_true rfl⟩) (fun H locs hW hS => ?_)
  refine lv_icmp_gt (tgt := 14) hx hb dX4_giveHeads_5 (by decide) (fun c4 => ?_) (fun c4 => ?_)
  · have h := zip c4 h
    exact t_X4_giveHeads_14_d7 C0 N  h hW hS (lv_sub hl [0, 4] rfl)
  · have h := zin c4 h
    refine lv_iload_n hx hb dX4_giveHeads_8 rfl (lv_at hl 3 rfl) ?_
    refine lv_bipush (v := 6) hx hb dX4_giveHeads_9 (by decide) ?_
    refine lv_icmp_le (tgt := 21) hx hb dX4_giveHeads_11 (by decide) (fun c5 => ?_) (fun c5 => ?_)
    · have h := zip c5 h
      refine lv_iconst (v := 0) hx hb dX4_giveHeads_21 (by decide) ?_
      refine lv_istore (lv' := [(6, .int (0 : Int32)), (0, .ref (ad x0)), (1, .ref (ad x1)), (2, .int x2), (3, .int x3), (4, .long x4)]) hx hb dX4_giveHeads_22 hl (by decide) rfl (fun ls hl => ?_)
      exact t_X4_giveHeads_24_d7 C0 N  N h hW hS (lv_sub hl [1, 2, 3, 4, 5, 0] rfl)
    · have h := zin c5 h
      exact t_X4_giveHeads_14_d7 C0 N  h hW hS (lv_sub hl [0, 4] rfl)
set_option maxRecDepth 100000 in
set_option maxHeartbeats 4000000 in
theorem m_X4_giveHeads_d7 (l : Launch) {D : va_G} {cy : Nat → ClassId} {ad : Nat → Nat} {L : List Nat} {K len : Nat → Nat} (hL : zSh ad L K) (N : Nat) {a0 : Nat} {a1 : Nat} {a2 : Int32} {a3 : Int32} {a4 : Int64} {M Mr : ZM} (h : f_X4_giveHeads N K len 7 a0 a1 a2 a3 a4 M = some Mr) (sz : Nat) : Met l yX4_giveHeads wsX4_giveHeads ({ frames := 10, cells := 0, slots := 0, locals := 270 } : Room) (zPre D cy ad L K len sz [.ref (ad a0), .ref (ad a1), .int a2, .int a3, .long a4] M) (zQv D cy ad L K len Mr sz) 0 0 (zA ad L sz) :=
  z_entry (Qf := fun sz => zQv D cy ad L K len Mr sz) (av := [.ref (ad a0), .ref (ad a1), .int a2, .int a3, .long a4]) (by decide) rfl rfl hL (Nat.le_of_ble_eq_true rfl) (fun p e s m args below meth c C0 H locs ls hW hS hl => t_X4_giveHeads_0_d7 C0 N h hW hS (lv_sub hl [0, 1, 2, 3, 4] rfl))
set_option maxRecDepth 100000 in
set_option maxHeartbeats 4000000 in
theorem t_X4_giveHeads_97_d8 {p : Program} {l : Launch} {e : Env} {s : State} {m : MethodId} {args : Array Value} {below : List Frame} {meth : Method} {c : Code} {D : va_G} {cy : Nat → ClassId} {ad : Nat → Nat} {L : List Nat} {K len : Nat → Nat} (C0 : zCx p s m c meth args cX4_giveHeads 9 wsX4_giveHeads RX4 none D cy ad L K) (N : Nat) {kh24 : Nat → Nat → Int32 → Int32 → Int64 → Int32 → ZM → Option (ZM)} {x0 : Nat} {x1 : Nat} {x2 : Int32} {x3 : Int32} {x4 : Int64} {x6 : Int32} {M : ZM} {Mr : ZM} (hk24 : ∀ {y0 : Nat} {y1 : Nat} {y2 : Int32} {y3 : Int32} {y4 : Int64} {y6 : Int32} {M : ZM}, kh24 y0 y1 y2 y3 y4 y6 M = some Mr → ∀ {H : Heap} {locs : List Loc} {ls : Array Slot}, zWd D cy ad L K len M H → va_S (zA ad L s.heap.size) s.heap H locs → lv_has ls 9 [(0, .ref (ad y0)), (1, .ref (ad y1)), (2, .int y2), (3, .int y3), (4, .long y4), (6, .int y6)] → W p l e (headSpec wsX4_giveHeads ({ frames := 11, cells := 0, slots := 0, locals := 298 } : Room)).room s m args below meth c H locs 0 0 (MQ below (zQv D cy ad L K len Mr s.heap.size) args s 0 0 (zA ad L s.heap.size)) (F0 m 24 ls [])) (h : f_X4_giveHeads_97 N K len (f_X4_giveHeads N K len 7) kh24 x0 x1 x2 x3 x4 x6 M = some Mr) {H : Heap} {locs : List Loc} {ls : Array Slot} (hW : zWd D cy ad L K len M H) (hS : va_S (zA ad L s.heap.size) s.heap H locs) (hl : lv_has ls 9 [(0, .ref (ad x0)), (1, .ref (ad x1)), (2, .int x2), (3, .int x3), (4, .long x4), (6, .int x6)]) : W p l e (headSpec wsX4_giveHeads ({ frames := 11, cells := 0, slots := 0, locals := 298 } : Room)).room s m args below meth c H locs 0 0 (MQ below (zQv D cy ad L K len Mr s.heap.size) args s 0 0 (zA ad L s.heap.size)) (F0 m 97 ls []) := by
  obtain ⟨hx, hb, hr, hml, hown, hts, hlocks, hK, hL, hE⟩ := id C0
  unfold f_X4_giveHeads_97 at h
  refine lv_iinc (k := 5) (v := (x6 + 1)) (lv' := [(6, .int (x6 + 1)), (0, .ref (ad x0)), (1, .ref (ad x1)), (2, .int x2), (3, .int x3), (4, .long x4)]) hx hb dX4_giveHeads_97 hl rfl (by rw [show Int32.ofInt 1 = (1 : Int32) from by decide]) (by decide) rfl (fun ls hl => ?_)
  refine lv_goto (tgt := 24) hx hb dX4_giveHeads_100 (by decide) ?_
  exact hk24 h hW hS (lv_sub hl [1, 2, 3, 4, 5, 0] rfl)
set_option maxRecDepth 100000 in
set_option maxHeartbeats 4000000 in
theorem t_X4_giveHeads_75_d8 {p : Program} {l : Launch} {e : Env} {s : State} {m : MethodId} {args : Array Value} {below : List Frame} {meth : Method} {c : Code} {D : va_G} {cy : Nat → ClassId} {ad : Nat → Nat} {L : List Nat} {K len : Nat → Nat} (C0 : zCx p s m c meth args cX4_giveHeads 9 wsX4_giveHeads RX4 none D cy ad L K) (N : Nat) {kh24 : Nat → Nat → Int32 → Int32 → Int64 → Int32 → ZM → Option (ZM)} {x0 : Nat} {x1 : Nat} {x2 : Int32} {x3 : Int32} {x4 : Int64} {x6 : Int32} {x7 : Int64} {M : ZM} {Mr : ZM} (hk24 : ∀ {y0 : Nat} {y1 : Nat} {y2 : Int32} {y3 : Int32} {y4 : Int64} {y6 : Int32} {M : ZM}, kh24 y0 y1 y2 y3 y4 y6 M = some Mr → ∀ {H : Heap} {locs : List Loc} {ls : Array Slot}, zWd D cy ad L K len M H → va_S (zA ad L s.heap.size) s.heap H locs → lv_has ls 9 [(0, .ref (ad y0)), (1, .ref (ad y1)), (2, .int y2), (3, .int y3), (4, .long y4), (6, .int y6)] → W p l e (headSpec wsX4_giveHeads ({ frames := 11, cells := 0, slots := 0, locals := 298 } : Room)).room s m args below meth c H locs 0 0 (MQ below (zQv D cy ad L K len Mr s.heap.size) args s 0 0 (zA ad L s.heap.size)) (F0 m 24 ls [])) (h : f_X4_giveHeads_75 N K len (f_X4_giveHeads N K len 7) kh24 x0 x1 x2 x3 x4 x6 x7 M = some Mr) {H : Heap} {locs : List Loc} {ls : Array Slot} (hW : zWd D cy ad L K len M H) (hS : va_S (zA ad L s.heap.size) s.heap H locs) (hl : lv_has ls 9 [(0, .ref (ad x0)), (1, .ref (ad x1)), (2, .int x2), (3, .int x3), (4, .long x4), (6, .int x6), (7, .long x7)]) : W p l e (headSpec wsX4_giveHeads ({ frames := 11, cells := 0, slots := 0, locals := 298 } : Room)).room s m args below meth c H locs 0 0 (MQ below (zQv D cy ad L K len Mr s.heap.size) args s 0 0 (zA ad L s.heap.size)) (F0 m 75 ls []) := by
  obtain ⟨hx, hb, hr, hml, hown, hts, hlocks, hK, hL, hE⟩ := id C0
  have hinX4 : ∀ w ∈ wsX40, w ∈ wsX4_giveHeads := by decide +kernel
  unfold f_X4_giveHeads_75 at h
  refine lv_aload_n hx hb dX4_giveHeads_75 rfl (lv_at hl 0 rfl) ?_
  obtain ⟨g1, h⟩ := zg_some h
  obtain ⟨b2, e3, h⟩ := zb_some h
  refine z_get (own := RX4) (C := RX4) (T := TX4) (N := 3) (ci := 4) hx hb hts hinX4 hown hK hL hW 1 (zK_of g1) rfl (by decide) (by decide) rfl (hts (.fieldLink RX4 15 "ArcLight$Trial" "heads" "[I") (by decide +kernel)) (v := .ref (ad b2)) (zhvR e3 rfl) dX4_giveHeads_76 ?_
  refine lv_iload_n hx hb dX4_giveHeads_79 rfl (lv_at hl 3 rfl) ?_
  refine lv_iload hx hb dX4_giveHeads_80 (lv_at hl 5 rfl) ?_
  obtain ⟨g4, h⟩ := zg_some h
  refine z_iast hx hb hK hL hW hS g4 dX4_giveHeads_82 (fun H locs hW hS => ?_)
  obtain ⟨M5, eM6, h⟩ := zl_some h
  rw [← eM6] at hW
  refine lv_aload_n hx hb dX4_giveHeads_83 rfl (lv_at hl 0 rfl) ?_
  refine lv_aload_n hx hb dX4_giveHeads_84 rfl (lv_at hl 1 rfl) ?_
  refine lv_iload_n hx hb dX4_giveHeads_85 rfl (lv_at hl 2 rfl) ?_
  refine lv_iload_n hx hb dX4_giveHeads_86 rfl (lv_at hl 3 rfl) ?_
  refine lv_iconst (v := 1) hx hb dX4_giveHeads_87 (by decide) ?_
  refine lv_iadd hx hb dX4_giveHeads_88 ?_
  refine lv_lload hx hb dX4_giveHeads_89 (lv_at hl 4 rfl) ?_
  refine lv_lload hx hb dX4_giveHeads_91 (lv_at hl 6 rfl) ?_
  refine lv_ladd hx hb dX4_giveHeads_93 ?_
  obtain ⟨M9, e8, h⟩ := zb_some h
  refine z_callv hS (va_runS (As := [.ref (ad x0), .ref (ad x1), .int x2, .int (x3 + (1 : Int32)), .long (x4 + x7)]) (rest := []) ⟨hx, hb, hml, hown, hts⟩ (m_X4_giveHeads_d7 l hL N e8 H.size) (va_cwS 5 hts gX4_giveHeads_X4_giveHeads rfl rfl rfl (by decide +kernel) ⟨Nat.le_of_ble_eq_true rfl, Nat.le_of_ble_eq_true rfl⟩) (z_preS hK hE hW hS [.ref (ad x0), .ref (ad x1), .int x2, .int (x3 + (1 : Int32)), .long (x4 + x7)]) rfl rfl hl.1 rfl (lv_room (Nat.le_of_ble_eq_true rfl)) dX4_giveHeads_94 ⟨Nat.le_of_ble_eq_true rfl, Nat.le_of_ble_eq_true rfl⟩) (fun H locs hW hS => ?_)
  exact t_X4_giveHeads_97_d8 C0 N hk24 h hW hS (lv_sub hl [0, 1, 2, 3, 4, 5] rfl)
set_option maxRecDepth 100000 in
set_option maxHeartbeats 4000000 in
theorem t_X4_giveHeads_24_d8 {p : Program} {l : Launch} {e : Env} {s : State} {m : MethodId} {args : Array Value} {below : List Frame} {meth : Method} {c : Code} {D : va_G} {cy : Nat → ClassId} {ad : Nat → Nat} {L : List Nat} {K len : Nat → Nat} (C0 : zCx p s m c meth args cX4_giveHeads 9 wsX4_giveHeads RX4 none D cy ad L K) (N : Nat) {Mr : ZM} : ∀ (n : Nat) {x0 : Nat} {x1 : Nat} {x2 : Int32} {x3 : Int32} {x4 : Int64} {x6 : Int32} {M : ZM}, f_X4_giveHeads_24 N K len (f_X4_giveHeads N K len 7) n x0 x1 x2 x3 x4 x6 M = some Mr → ∀ {H : Heap} {locs : List Loc} {ls : Array Slot}, zWd D cy ad L K len M H → va_S (zA ad L s.heap.size) s.heap H locs → lv_has ls 9 [(0, .ref (ad x0)), (1, .ref (ad x1)), (2, .int x2), (3, .int x3), (4, .long x4), (6, .int x6)] → W p l e (headSpec wsX4_giveHeads ({ frames := 11, cells := 0, slots := 0, locals := 298 } : Room)).room s m args below meth c H locs 0 0 (MQ below (zQv D cy ad L K len Mr s.heap.size) args s 0 0 (zA ad L s.heap.size)) (F0 m 24 ls []) := by
  obtain ⟨hx, hb, hr, hml, hown, hts, hlocks, hK, hL, hE⟩ := id C0
  intro n
  induction n with
  | zero =>
    intro x0 x1 x2 x3 x4 x6 M h
    cases (show (none : Option (ZM)) = some Mr from h)
  | succ n ih =>
    intro x0 x1 x2 x3 x4 x6 M h H locs ls hW hS hl
    rw [f_X4_giveHeads_24] at h
    refine lv_iload hx hb dX4_giveHeads_24 (lv_at hl 5 rfl) ?_
    refine lv_aload_n hx hb dX4_giveHeads_26 rfl (lv_at hl 1 rfl) ?_
    obtain ⟨q1, e2, h⟩ := zb_some h
    obtain ⟨g3, h⟩ := zg_some h
    refine z_calli hS (va_runV (As := []) (rest := [.int x6]) ⟨hx, hb, hml, hown, hts⟩ (m_X0_size l hL N e2 H.size) (cwV 0 hts gX4_giveHeads_X0_size rfl rfl rfl (by decide +kernel) ⟨Nat.le_of_ble_eq_true rfl, Nat.le_of_ble_eq_true rfl⟩) (z_preV (q := (RX0, TX0, 2)) hK hL hE hW hS (zK_of g3) (by decide) rfl []) rfl rfl hl.1 rfl (lv_room (Nat.le_of_ble_eq_true rfl)) dX4_giveHeads_27 ⟨Nat.le_of_ble_eq_true rfl, Nat.le_of_ble_eq_true rfl⟩) (fun H locs hW hS => ?_)
    refine lv_icmp_gt (tgt := 103) hx hb dX4_giveHeads_30 (by decide) (fun c4 => ?_) (fun c4 => ?_)
    · have h := zip c4 h
      exact z_vret hx hb hr hlocks hW hS (Option.some.inj h) dX4_giveHeads_103
    · have h := zin c4 h
      refine lv_aload_n hx hb dX4_giveHeads_33 rfl (lv_at hl 1 rfl) ?_
      refine lv_iload hx hb dX4_giveHeads_34 (lv_at hl 5 rfl) ?_
      refine lv_iload_n hx hb dX4_giveHeads_36 rfl (lv_at hl 3 rfl) ?_
      obtain ⟨q5, e6, h⟩ := zb_some h
      refine z_calll hS (va_runV (As := [.int x6, .int x3]) (rest := []) ⟨hx, hb, hml, hown, hts⟩ (m_X0_get l hL N e6 H.size) (cwV 2 hts gX4_giveHeads_X0_get rfl rfl rfl (by decide +kernel) ⟨Nat.le_of_ble_eq_true rfl, Nat.le_of_ble_eq_true rfl⟩) (z_preV (q := (RX0, TX0, 2)) hK hL hE hW hS (zK_of g3) (by decide) rfl [.int x6, .int x3]) rfl rfl hl.1 rfl (lv_room (Nat.le_of_ble_eq_true rfl)) dX4_giveHeads_37 ⟨Nat.le_of_ble_eq_true rfl, Nat.le_of_ble_eq_true rfl⟩) (fun H locs hW hS => ?_)
      refine lv_lstore (lv' := [(7, .long q5), (0, .ref (ad x0)), (1, .ref (ad x1)), (2, .int x2), (3, .int x3), (4, .long x4), (6, .int x6)]) hx hb dX4_giveHeads_40 hl (by decide) rfl (fun ls hl => ?_)
      refine lv_lload hx hb dX4_giveHeads_42 (lv_at hl 0 rfl) ?_
      refine lv_ldc2 hx hb hown (hts (.constantLong RX4 27 (-9223372036854775808)) (by decide +kernel)) dX4_giveHeads_44 ?_
      refine z_lc_eq (tgt := 97) hx hb dX4_giveHeads_47 dX4_giveHeads_48 (by decide) (fun c7 => ?_) (fun c7 => ?_)
      · have h := zip c7 h
        exact t_X4_giveHeads_97_d8 C0 N (fun h _ _ _ hW hS hl => ih h hW hS hl) h hW hS (lv_sub hl [1, 2, 3, 4, 5, 6] rfl)
      · have h := zin c7 h
        refine lv_aload_n hx hb dX4_giveHeads_51 rfl (lv_at hl 1 rfl) ?_
        refine lv_iload hx hb dX4_giveHeads_52 (lv_at hl 6 rfl) ?_
        refine lv_iload_n hx hb dX4_giveHeads_54 rfl (lv_at hl 4 rfl) ?_
        obtain ⟨q8, e9, h⟩ := zb_some h
        obtain ⟨g10, h⟩ := zg_some h
        refine z_calli hS (va_runV (As := [.int x6, .int x3]) (rest := []) ⟨hx, hb, hml, hown, hts⟩ (m_X4_closesCircle l hL N e9 H.size) (cwV 2 hts gX4_giveHeads_X4_closesCircle rfl rfl rfl (by decide +kernel) ⟨Nat.le_of_ble_eq_true rfl, Nat.le_of_ble_eq_true rfl⟩) (z_preV (q := (RX4, TX4, 3)) hK hL hE hW hS (zK_of g10) (by decide) rfl [.int x6, .int x3]) rfl rfl hl.1 rfl (lv_room (Nat.le_of_ble_eq_true rfl)) dX4_giveHeads_55 ⟨Nat.le_of_ble_eq_true rfl, Nat.le_of_ble_eq_true rfl⟩) (fun H locs hW hS => ?_)
        refine lv_if_ne (tgt := 97) hx hb dX4_giveHeads_58 (by decide) (fun c11 => ?_) (fun c11 => ?_)
        · have h := zin c11 h
          exact t_X4_giveHeads_97_d8 C0 N (fun h _ _ _ hW hS hl => ih h hW hS hl) h hW hS (lv_sub hl [1, 2, 3, 4, 5, 6] rfl)
        · have h := zip c11 h
          refine lv_iload_n hx hb dX4_giveHeads_61 rfl (lv_at hl 3 rfl) ?_
          refine lv_if_ne (tgt := 75) hx hb dX4_giveHeads_62 (by decide) (fun c12 => ?_) (fun c12 => ?_)
          · have h := zin c12 h
            exact t_X4_giveHeads_75_d8 C0 N (fun h _ _ _ hW hS hl => ih h hW hS hl) h hW hS (lv_sub hl [1, 2, 3, 4, 5, 6, 0] rfl)
          · have h := zip c12 h
            refine lv_aload_n hx hb dX4_giveHeads_65 rfl (lv_at hl 1 rfl) ?_
            refine lv_iload hx hb dX4_giveHeads_66 (lv_at hl 6 rfl) ?_
            refine lv_iload_n hx hb dX4_giveHeads_68 rfl (lv_at hl 4 rfl) ?_
            obtain ⟨q13, e14, h⟩ := zb_some h
            refine z_calli hS (va_runV (As := [.int x6, .int x3]) (rest := []) ⟨hx, hb, hml, hown, hts⟩ (m_X4_crossesEarlier l hL N e14 H.size) (cwV 2 hts gX4_giveHeads_X4_crossesEarlier rfl rfl rfl (by decide +kernel) ⟨Nat.le_of_ble_eq_true rfl, Nat.le_of_ble_eq_true rfl⟩) (z_preV (q := (RX4, TX4, 3)) hK hL hE hW hS (zK_of g10) (by decide) rfl [.int x6, .int x3]) rfl rfl hl.1 rfl (lv_room (Nat.le_of_ble_eq_true rfl)) dX4_giveHeads_69 ⟨Nat.le_of_ble_eq_true rfl, Nat.le_of_ble_eq_true rfl⟩) (fun H locs hW hS => ?_)
            refine lv_if_ne (tgt := 97) hx hb dX4_giveHeads_72 (by decide) (fun c15 => ?_) (fun c15 => ?_)
            · have h := zin c15 h
              exact t_X4_giveHeads_97_d8 C0 N (fun h _ _ _ hW hS hl => ih h hW hS hl) h hW hS (lv_sub hl [1, 2, 3, 4, 5, 6] rfl)
            · have h := zip c15 h
              exact t_X4_giveHeads_75_d8 C0 N (fun h _ _ _ hW hS hl => ih h hW hS hl) h hW hS (lv_sub hl [1, 2, 3, 4, 5, 6, 0] rfl)
set_option maxRecDepth 100000 in
set_option maxHeartbeats 4000000 in
theorem t_X4_giveHeads_14_d8 {p : Program} {l : Launch} {e : Env} {s : State} {m : MethodId} {args : Array Value} {below : List Frame} {meth : Method} {c : Code} {D : va_G} {cy : Nat → ClassId} {ad : Nat → Nat} {L : List Nat} {K len : Nat → Nat} (C0 : zCx p s m c meth args cX4_giveHeads 9 wsX4_giveHeads RX4 none D cy ad L K) (N : Nat) {x0 : Nat} {x4 : Int64} {M : ZM} {Mr : ZM} (h : f_X4_giveHeads_14 N K len (f_X4_giveHeads N K len 7) x0 x4 M = some Mr) {H : Heap} {locs : List Loc} {ls : Array Slot} (hW : zWd D cy ad L K len M H) (hS : va_S (zA ad L s.heap.size) s.heap H locs) (hl : lv_has ls 9 [(0, .ref (ad x0)), (4, .long x4)]) : W p l e (headSpec wsX4_giveHeads ({ frames := 11, cells := 0, slots := 0, locals := 298 } : Room)).room s m args below meth c H locs 0 0 (MQ below (zQv D cy ad L K len Mr s.heap.size) args s 0 0 (zA ad L s.heap.size)) (F0 m 14 ls []) := by
  obtain ⟨hx, hb, hr, hml, hown, hts, hlocks, hK, hL, hE⟩ := id C0
  unfold f_X4_giveHeads_14 at h
  refine lv_aload_n hx hb dX4_giveHeads_14 rfl (lv_at hl 0 rfl) ?_
  refine lv_lload hx hb dX4_giveHeads_15 (lv_at hl 1 rfl) ?_
  obtain ⟨M3, e2, h⟩ := zb_some h
  obtain ⟨g4, h⟩ := zg_some h
  refine z_callv hS (va_runV (As := [.long x4]) (rest := []) ⟨hx, hb, hml, hown, hts⟩ (m_X4_note l hL N e2 H.size) (cwV 1 hts gX4_giveHeads_X4_note rfl rfl rfl (by decide +kernel) ⟨Nat.le_of_ble_eq_true rfl, Nat.le_of_ble_eq_true rfl⟩) (z_preV (q := (RX4, TX4, 3)) hK hL hE hW hS (zK_of g4) (by decide) rfl [.long x4]) rfl rfl hl.1 rfl (lv_room (Nat.le_of_ble_eq_true rfl)) dX4_giveHeads_17 ⟨Nat.le_of_ble_eq_true rfl, Nat.le_of_ble_eq_true rfl⟩) (fun H locs hW hS => ?_)
  exact z_vret hx hb hr hlocks hW hS (Option.some.inj h) dX4_giveHeads_20
set_option maxRecDepth 100000 in
set_option maxHeartbeats 4000000 in
theorem t_X4_giveHeads_0_d8 {p : Program} {l : Launch} {e : Env} {s : State} {m : MethodId} {args : Array Value} {below : List Frame} {meth : Method} {c : Code} {D : va_G} {cy : Nat → ClassId} {ad : Nat → Nat} {L : List Nat} {K len : Nat → Nat} (C0 : zCx p s m c meth args cX4_giveHeads 9 wsX4_giveHeads RX4 none D cy ad L K) (N : Nat) {x0 : Nat} {x1 : Nat} {x2 : Int32} {x3 : Int32} {x4 : Int64} {M : ZM} {Mr : ZM} (h : f_X4_giveHeads_0 N K len (f_X4_giveHeads N K len 7) x0 x1 x2 x3 x4 M = some Mr) {H : Heap} {locs : List Loc} {ls : Array Slot} (hW : zWd D cy ad L K len M H) (hS : va_S (zA ad L s.heap.size) s.heap H locs) (hl : lv_has ls 9 [(0, .ref (ad x0)), (1, .ref (ad x1)), (2, .int x2), (3, .int x3), (4, .long x4)]) : W p l e (headSpec wsX4_giveHeads ({ frames := 11, cells := 0, slots := 0, locals := 298 } : Room)).room s m args below meth c H locs 0 0 (MQ below (zQv D cy ad L K len Mr s.heap.size) args s 0 0 (zA ad L s.heap.size)) (F0 m 0 ls []) := by
  obtain ⟨hx, hb, hr, hml, hown, hts, hlocks, hK, hL, hE⟩ := id C0
  unfold f_X4_giveHeads_0 at h
  refine lv_iload_n hx hb dX4_giveHeads_0 rfl (lv_at hl 3 rfl) ?_
  refine lv_aload_n hx hb dX4_giveHeads_1 rfl (lv_at hl 1 rfl) ?_
  obtain ⟨q1, e2, h⟩ := zb_some h
  obtain ⟨g3, h⟩ := zg_some h
  refine z_calli hS (va_runV (As := []) (rest := [.int x3]) ⟨hx, hb, hml, hown, hts⟩ (m_X0_size l hL N e2 H.size) (cwV 0 hts gX4_giveHeads_X0_size rfl rfl rfl (by decide +kernel) ⟨Nat.le_of_ble_eq_true rfl, Nat.le_of_ble_eq_true rfl⟩) (z_preV (q := (RX0, TX0, 2)) hK hL hE hW hS (zK_of g3) (by decide) rfl []) rfl rfl hl.1 rfl (lv_room (Nat.le_of_ble_eq_true rfl)) dX4_giveHeads_2 ⟨Nat.le_of_ble_eq_true rfl, Nat.le_of_ble_eq_true rfl⟩) (fun H locs hW hS => ?_)
  refine lv_icmp_gt (tgt := 14) hx hb dX4_giveHeads_5 (by decide) (fun c4 => ?_) (fun c4 => ?_)
  · have h := zip c4 h
    exact t_X4_giveHeads_14_d8 C0 N  h hW hS (lv_sub hl [0, 4] rfl)
  · have h := zin c4 h
    refine lv_iload_n hx hb dX4_giveHeads_8 rfl (lv_at hl 3 rfl) ?_
    refine lv_bipush (v := 6) hx hb dX4_giveHeads_9 (by decide) ?_
    refine lv_icmp_le (tgt := 21) hx hb dX4_giveHeads_11 (by decide) (fun c5 => ?_) (fun c5 => ?_)
    · have h := zip c5 h
      refine lv_iconst (v := 0) hx hb dX4_giveHeads_21 (by decide) ?_
      refine lv_istore (lv' := [(6, .int (0 : Int32)), (0, .ref (ad x0)), (1, .ref (ad x1)), (2, .int x2), (3, .int x3), (4, .long x4)]) hx hb dX4_giveHeads_22 hl (by decide) rfl (fun ls hl => ?_)
      exact t_X4_giveHeads_24_d8 C0 N  N h hW hS (lv_sub hl [1, 2, 3, 4, 5, 0] rfl)
    · have h := zin c5 h
      exact t_X4_giveHeads_14_d8 C0 N  h hW hS (lv_sub hl [0, 4] rfl)
set_option maxRecDepth 100000 in
set_option maxHeartbeats 4000000 in
theorem m_X4_giveHeads_d8 (l : Launch) {D : va_G} {cy : Nat → ClassId} {ad : Nat → Nat} {L : List Nat} {K len : Nat → Nat} (hL : zSh ad L K) (N : Nat) {a0 : Nat} {a1 : Nat} {a2 : Int32} {a3 : Int32} {a4 : Int64} {M Mr : ZM} (h : f_X4_giveHeads N K len 8 a0 a1 a2 a3 a4 M = some Mr) (sz : Nat) : Met l yX4_giveHeads wsX4_giveHeads ({ frames := 11, cells := 0, slots := 0, locals := 298 } : Room) (zPre D cy ad L K len sz [.ref (ad a0), .ref (ad a1), .int a2, .int a3, .long a4] M) (zQv D cy ad L K len Mr sz) 0 0 (zA ad L sz) :=
  z_entry (Qf := fun sz => zQv D cy ad L K len Mr sz) (av := [.ref (ad a0), .ref (ad a1), .int a2, .int a3, .long a4]) (by decide) rfl rfl hL (Nat.le_of_ble_eq_true rfl) (fun p e s m args below meth c C0 H locs ls hW hS hl => t_X4_giveHeads_0_d8 C0 N h hW hS (lv_sub hl [0, 1, 2, 3, 4] rfl))

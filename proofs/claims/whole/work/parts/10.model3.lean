/-! Walks laid by program (wip/whole/gen): X7_correct, X7_matched, X7_isRight, X7_adds, X7_mend, X7_steps, X7_rollBack -/
def f_X7_correct_0 (N : Nat) (K len : Nat → Nat) (x0 : Nat) (x1 : Int32) (x2 : Int32) (x3 : Int32) (M : ZM) : Option (Int32 × ZM) :=
zbp (f_X7_asksArc N K len x0 x1 x2 x3 M) fun q1 M3 => (
zg (K x0 == 8) (
(if q1 = 0 then
some ((0 : Int32), M3)
else
(zR M3 x0 4).bind fun b6 => (
zg (zok K len b6 11 (((7 : Int32) * x1) + x3)) (
zl (zsI M3 b6 (((7 : Int32) * x1) + x3).toNatClampNeg x2) fun M9 => (
some ((zI M3 b6 (((7 : Int32) * x1) + x3).toNatClampNeg), M9)))))))
set_option maxRecDepth 100000 in
set_option maxHeartbeats 4000000 in
theorem t_X7_correct_0 {p : Program} {l : Launch} {e : Env} {s : State} {m : MethodId} {args : Array Value} {below : List Frame} {meth : Method} {c : Code} {D : va_G} {cy : Nat → ClassId} {ad : Nat → Nat} {L : List Nat} {K len : Nat → Nat} (C0 : zCx p s m c meth args cX7_correct 5 wsX7_correct RX7 (some .int) D cy ad L K) (N : Nat) {x0 : Nat} {x1 : Int32} {x2 : Int32} {x3 : Int32} {M : ZM} {r : Int32} {Mr : ZM} (h : f_X7_correct_0 N K len x0 x1 x2 x3 M = some (r, Mr)) {H : Heap} {locs : List Loc} {ls : Array Slot} (hW : zWd D cy ad L K len M H) (hS : va_S (zA ad L s.heap.size) s.heap H locs) (hl : lv_has ls 5 [(0, .ref (ad x0)), (1, .int x1), (2, .int x2), (3, .int x3)]) : W p l e (headSpec wsX7_correct ({ frames := 3, cells := 0, slots := 0, locals := 66 } : Room)).room s m args below meth c H locs 0 0 (MQ below (zQi D cy ad L K len r Mr s.heap.size) args s 0 0 (zA ad L s.heap.size)) (F0 m 0 ls []) := by
  obtain ⟨hx, hb, hr, hml, hown, hts, hlocks, hK, hL, hE⟩ := id C0
  have hinX7 : ∀ w ∈ wsX70, w ∈ wsX7_correct := by decide +kernel
  unfold f_X7_correct_0 at h
  refine lv_aload_n hx hb dX7_correct_0 rfl (lv_at hl 0 rfl) ?_
  refine lv_iload_n hx hb dX7_correct_1 rfl (lv_at hl 1 rfl) ?_
  refine lv_iload_n hx hb dX7_correct_2 rfl (lv_at hl 2 rfl) ?_
  refine lv_iload_n hx hb dX7_correct_3 rfl (lv_at hl 3 rfl) ?_
  obtain ⟨q1, M3, e2, h⟩ := zbp_some h
  obtain ⟨g4, h⟩ := zg_some h
  refine z_calli hS (va_runV (As := [.int x1, .int x2, .int x3]) (rest := []) ⟨hx, hb, hml, hown, hts⟩ (m_X7_asksArc l hL N e2 H.size) (cwV 3 hts gX7_correct_X7_asksArc rfl rfl rfl (by decide +kernel) ⟨Nat.le_of_ble_eq_true rfl, Nat.le_of_ble_eq_true rfl⟩) (z_preV (q := (RX7, TX7, 20)) hK hL hE hW hS (zK_of g4) (by decide) rfl [.int x1, .int x2, .int x3]) rfl rfl hl.1 rfl (lv_room (Nat.le_of_ble_eq_true rfl)) dX7_correct_4 ⟨Nat.le_of_ble_eq_true rfl, Nat.le_of_ble_eq_true rfl⟩) (fun H locs hW hS => ?_)
  refine lv_if_ne (tgt := 12) hx hb dX7_correct_7 (by decide) (fun c5 => ?_) (fun c5 => ?_)
  · have h := zin c5 h
    refine lv_aload_n hx hb dX7_correct_12 rfl (lv_at hl 0 rfl) ?_
    obtain ⟨b6, e7, h⟩ := zb_some h
    refine z_get (own := RX7) (C := RX7) (T := TX7) (N := 20) (ci := 7) hx hb hts hinX7 hown hK hL hW 4 (zK_of g4) rfl (by decide) (by decide) rfl (hts (.fieldLink RX7 19 "ArcLightModel" "right" "[I") (by decide +kernel)) (v := .ref (ad b6)) (zhvR e7 rfl) dX7_correct_13 ?_
    refine lv_bipush (v := 7) hx hb dX7_correct_16 (by decide) ?_
    refine lv_iload_n hx hb dX7_correct_18 rfl (lv_at hl 1 rfl) ?_
    refine lv_imul hx hb dX7_correct_19 ?_
    refine lv_iload_n hx hb dX7_correct_20 rfl (lv_at hl 3 rfl) ?_
    refine lv_iadd hx hb dX7_correct_21 ?_
    obtain ⟨g8, h⟩ := zg_some h
    refine z_iald hx hb hK hL hW g8 dX7_correct_22 ?_
    refine lv_istore (lv' := [(4, .int (zI M3 b6 (((7 : Int32) * x1) + x3).toNatClampNeg)), (0, .ref (ad x0)), (1, .int x1), (2, .int x2), (3, .int x3)]) hx hb dX7_correct_23 hl (by decide) rfl (fun ls hl => ?_)
    refine lv_aload_n hx hb dX7_correct_25 rfl (lv_at hl 1 rfl) ?_
    refine z_get (own := RX7) (C := RX7) (T := TX7) (N := 20) (ci := 7) hx hb hts hinX7 hown hK hL hW 4 (zK_of g4) rfl (by decide) (by decide) rfl (hts (.fieldLink RX7 19 "ArcLightModel" "right" "[I") (by decide +kernel)) (v := .ref (ad b6)) (zhvR e7 rfl) dX7_correct_26 ?_
    refine lv_bipush (v := 7) hx hb dX7_correct_29 (by decide) ?_
    refine lv_iload_n hx hb dX7_correct_31 rfl (lv_at hl 2 rfl) ?_
    refine lv_imul hx hb dX7_correct_32 ?_
    refine lv_iload_n hx hb dX7_correct_33 rfl (lv_at hl 4 rfl) ?_
    refine lv_iadd hx hb dX7_correct_34 ?_
    refine lv_iload_n hx hb dX7_correct_35 rfl (lv_at hl 3 rfl) ?_
    refine z_iast hx hb hK hL hW hS g8 dX7_correct_36 (fun H locs hW hS => ?_)
    obtain ⟨M9, eM10, h⟩ := zl_some h
    rw [← eM10] at hW
    refine lv_iload hx hb dX7_correct_37 (lv_at hl 0 rfl) ?_
    exact z_iret hx hb hr hlocks hW hS (congrArg Prod.fst (Option.some.inj h)) (congrArg Prod.snd (Option.some.inj h)) dX7_correct_39
  · have h := zip c5 h
    refine lv_iconst (v := 0) hx hb dX7_correct_10 (by decide) ?_
    exact z_iret hx hb hr hlocks hW hS (congrArg Prod.fst (Option.some.inj h)) (congrArg Prod.snd (Option.some.inj h)) dX7_correct_11
def f_X7_correct (N : Nat) (K len : Nat → Nat) (a0 : Nat) (a1 : Int32) (a2 : Int32) (a3 : Int32) (M : ZM) : Option (Int32 × ZM) := f_X7_correct_0 N K len a0 a1 a2 a3 M
set_option maxRecDepth 100000 in
set_option maxHeartbeats 4000000 in
theorem m_X7_correct (l : Launch) {D : va_G} {cy : Nat → ClassId} {ad : Nat → Nat} {L : List Nat} {K len : Nat → Nat} (hL : zSh ad L K) (N : Nat) {a0 : Nat} {a1 : Int32} {a2 : Int32} {a3 : Int32} {M : ZM} {r : Int32} {Mr : ZM} (h : f_X7_correct N K len a0 a1 a2 a3 M = some (r, Mr)) (sz : Nat) : Met l yX7_correct wsX7_correct ({ frames := 3, cells := 0, slots := 0, locals := 66 } : Room) (zPre D cy ad L K len sz [.ref (ad a0), .int a1, .int a2, .int a3] M) (zQi D cy ad L K len r Mr sz) 0 0 (zA ad L sz) :=
  z_entry (Qf := fun sz => zQi D cy ad L K len r Mr sz) (av := [.ref (ad a0), .int a1, .int a2, .int a3]) (by decide) rfl rfl hL (Nat.le_of_ble_eq_true rfl) (fun p e s m args below meth c C0 H locs ls hW hS hl => t_X7_correct_0 C0 N h hW hS (lv_sub hl [0, 1, 2, 3] rfl))
def f_X7_matched_70 (N : Nat) (K len : Nat → Nat) (kh29 : Nat → Int32 → Int64 → Int32 → Int32 → ZM → Option (Int32 × ZM)) (x0 : Nat) (x1 : Int32) (x2 : Int64) (x5 : Int32) (s0 : Int32) (s1 : Int32) (M : ZM) : Option (Int32 × ZM) :=
kh29 x0 x1 x2 (s1 + s0) (x5 + 1) M
set_option maxRecDepth 100000 in
set_option maxHeartbeats 4000000 in
theorem t_X7_matched_70 {p : Program} {l : Launch} {e : Env} {s : State} {m : MethodId} {args : Array Value} {below : List Frame} {meth : Method} {c : Code} {D : va_G} {cy : Nat → ClassId} {ad : Nat → Nat} {L : List Nat} {K len : Nat → Nat} (C0 : zCx p s m c meth args cX7_matched 6 wsX7_matched RX7 (some .int) D cy ad L K) (N : Nat) {kh29 : Nat → Int32 → Int64 → Int32 → Int32 → ZM → Option (Int32 × ZM)} {x0 : Nat} {x1 : Int32} {x2 : Int64} {x5 : Int32} {s0 : Int32} {s1 : Int32} {M : ZM} {r : Int32} {Mr : ZM} (hk29 : ∀ {y0 : Nat} {y1 : Int32} {y2 : Int64} {y4 : Int32} {y5 : Int32} {M : ZM}, kh29 y0 y1 y2 y4 y5 M = some (r, Mr) → ∀ {H : Heap} {locs : List Loc} {ls : Array Slot}, zWd D cy ad L K len M H → va_S (zA ad L s.heap.size) s.heap H locs → lv_has ls 6 [(0, .ref (ad y0)), (1, .int y1), (2, .long y2), (4, .int y4), (5, .int y5)] → W p l e (headSpec wsX7_matched ({ frames := 6, cells := 0, slots := 0, locals := 147 } : Room)).room s m args below meth c H locs 0 0 (MQ below (zQi D cy ad L K len r Mr s.heap.size) args s 0 0 (zA ad L s.heap.size)) (F0 m 29 ls [])) (h : f_X7_matched_70 N K len kh29 x0 x1 x2 x5 s0 s1 M = some (r, Mr)) {H : Heap} {locs : List Loc} {ls : Array Slot} (hW : zWd D cy ad L K len M H) (hS : va_S (zA ad L s.heap.size) s.heap H locs) (hl : lv_has ls 6 [(0, .ref (ad x0)), (1, .int x1), (2, .long x2), (5, .int x5)]) : W p l e (headSpec wsX7_matched ({ frames := 6, cells := 0, slots := 0, locals := 147 } : Room)).room s m args below meth c H locs 0 0 (MQ below (zQi D cy ad L K len r Mr s.heap.size) args s 0 0 (zA ad L s.heap.size)) (F0 m 70 ls [.int s0, .int s1]) := by
  obtain ⟨hx, hb, hr, hml, hown, hts, hlocks, hK, hL, hE⟩ := id C0
  unfold f_X7_matched_70 at h
  refine lv_iadd hx hb dX7_matched_70 ?_
  refine lv_istore (lv' := [(4, .int (s1 + s0)), (0, .ref (ad x0)), (1, .int x1), (2, .long x2), (5, .int x5)]) hx hb dX7_matched_71 hl (by decide) rfl (fun ls hl => ?_)
  refine lv_iinc (k := 4) (v := (x5 + 1)) (lv' := [(5, .int (x5 + 1)), (4, .int (s1 + s0)), (0, .ref (ad x0)), (1, .int x1), (2, .long x2)]) hx hb dX7_matched_73 hl rfl (by rw [show Int32.ofInt 1 = (1 : Int32) from by decide]) (by decide) rfl (fun ls hl => ?_)
  refine lv_goto (tgt := 29) hx hb dX7_matched_76 (by decide) ?_
  exact hk29 h hW hS (lv_sub hl [2, 3, 4, 1, 0] rfl)
def f_X7_matched_29 (N : Nat) (K len : Nat → Nat) : Nat → Nat → Int32 → Int64 → Int32 → Int32 → ZM → Option (Int32 × ZM)
  | 0, _, _, _, _, _, _ => none
  | n + 1, x0, x1, x2, x4, x5, M =>
    zg (K x0 == 8) (
    (zR M x0 1).bind fun b2 => (
    zg (zok K len b2 11 x1) (
    (if (zI M b2 x1.toNatClampNeg) < x5 then
    some (x4, M)
    else
    (zR M x0 4).bind fun b6 => (
    zg (zok K len b6 11 (((7 : Int32) * x1) + x5)) (
    (f_X7_headIn N K len x0 x1 x2 x5 M).bind fun q9 => (
    (if (zI M b6 (((7 : Int32) * x1) + x5).toNatClampNeg) = q9 then
    f_X7_matched_70 N K len (fun y0 y1 y2 y4 y5 M => f_X7_matched_29 N K len  n y0 y1 y2 y4 y5 M) x0 x1 x2 x5 (1 : Int32) x4 M
    else
    f_X7_matched_70 N K len (fun y0 y1 y2 y4 y5 M => f_X7_matched_29 N K len  n y0 y1 y2 y4 y5 M) x0 x1 x2 x5 (0 : Int32) x4 M))))))))
set_option maxRecDepth 100000 in
set_option maxHeartbeats 4000000 in
theorem t_X7_matched_29 {p : Program} {l : Launch} {e : Env} {s : State} {m : MethodId} {args : Array Value} {below : List Frame} {meth : Method} {c : Code} {D : va_G} {cy : Nat → ClassId} {ad : Nat → Nat} {L : List Nat} {K len : Nat → Nat} (C0 : zCx p s m c meth args cX7_matched 6 wsX7_matched RX7 (some .int) D cy ad L K) (N : Nat) {r : Int32} {Mr : ZM} : ∀ (n : Nat) {x0 : Nat} {x1 : Int32} {x2 : Int64} {x4 : Int32} {x5 : Int32} {M : ZM}, f_X7_matched_29 N K len n x0 x1 x2 x4 x5 M = some (r, Mr) → ∀ {H : Heap} {locs : List Loc} {ls : Array Slot}, zWd D cy ad L K len M H → va_S (zA ad L s.heap.size) s.heap H locs → lv_has ls 6 [(0, .ref (ad x0)), (1, .int x1), (2, .long x2), (4, .int x4), (5, .int x5)] → W p l e (headSpec wsX7_matched ({ frames := 6, cells := 0, slots := 0, locals := 147 } : Room)).room s m args below meth c H locs 0 0 (MQ below (zQi D cy ad L K len r Mr s.heap.size) args s 0 0 (zA ad L s.heap.size)) (F0 m 29 ls []) := by
  obtain ⟨hx, hb, hr, hml, hown, hts, hlocks, hK, hL, hE⟩ := id C0
  have hinX7 : ∀ w ∈ wsX70, w ∈ wsX7_matched := by decide +kernel
  intro n
  induction n with
  | zero =>
    intro x0 x1 x2 x4 x5 M h
    cases (show (none : Option (Int32 × ZM)) = some (r, Mr) from h)
  | succ n ih =>
    intro x0 x1 x2 x4 x5 M h H locs ls hW hS hl
    rw [f_X7_matched_29] at h
    refine lv_iload hx hb dX7_matched_29 (lv_at hl 4 rfl) ?_
    refine lv_aload_n hx hb dX7_matched_31 rfl (lv_at hl 0 rfl) ?_
    obtain ⟨g1, h⟩ := zg_some h
    obtain ⟨b2, e3, h⟩ := zb_some h
    refine z_get (own := RX7) (C := RX7) (T := TX7) (N := 20) (ci := 7) hx hb hts hinX7 hown hK hL hW 1 (zK_of g1) rfl (by decide) (by decide) rfl (hts (.fieldLink RX7 7 "ArcLightModel" "words" "[I") (by decide +kernel)) (v := .ref (ad b2)) (zhvR e3 rfl) dX7_matched_32 ?_
    refine lv_iload_n hx hb dX7_matched_35 rfl (lv_at hl 1 rfl) ?_
    obtain ⟨g4, h⟩ := zg_some h
    refine z_iald hx hb hK hL hW g4 dX7_matched_36 ?_
    refine lv_icmp_gt (tgt := 79) hx hb dX7_matched_37 (by decide) (fun c5 => ?_) (fun c5 => ?_)
    · have h := zip c5 h
      refine lv_iload hx hb dX7_matched_79 (lv_at hl 3 rfl) ?_
      exact z_iret hx hb hr hlocks hW hS (congrArg Prod.fst (Option.some.inj h)) (congrArg Prod.snd (Option.some.inj h)) dX7_matched_81
    · have h := zin c5 h
      refine lv_iload hx hb dX7_matched_40 (lv_at hl 3 rfl) ?_
      refine lv_aload_n hx hb dX7_matched_42 rfl (lv_at hl 0 rfl) ?_
      obtain ⟨b6, e7, h⟩ := zb_some h
      refine z_get (own := RX7) (C := RX7) (T := TX7) (N := 20) (ci := 7) hx hb hts hinX7 hown hK hL hW 4 (zK_of g1) rfl (by decide) (by decide) rfl (hts (.fieldLink RX7 19 "ArcLightModel" "right" "[I") (by decide +kernel)) (v := .ref (ad b6)) (zhvR e7 rfl) dX7_matched_43 ?_
      refine lv_bipush (v := 7) hx hb dX7_matched_46 (by decide) ?_
      refine lv_iload_n hx hb dX7_matched_48 rfl (lv_at hl 1 rfl) ?_
      refine lv_imul hx hb dX7_matched_49 ?_
      refine lv_iload hx hb dX7_matched_50 (lv_at hl 4 rfl) ?_
      refine lv_iadd hx hb dX7_matched_52 ?_
      obtain ⟨g8, h⟩ := zg_some h
      refine z_iald hx hb hK hL hW g8 dX7_matched_53 ?_
      refine lv_aload_n hx hb dX7_matched_54 rfl (lv_at hl 0 rfl) ?_
      refine lv_iload_n hx hb dX7_matched_55 rfl (lv_at hl 1 rfl) ?_
      refine lv_lload_n hx hb dX7_matched_56 rfl (lv_at hl 2 rfl) ?_
      refine lv_iload hx hb dX7_matched_57 (lv_at hl 4 rfl) ?_
      obtain ⟨q9, e10, h⟩ := zb_some h
      refine z_calli hS (va_runV (As := [.int x1, .long x2, .int x5]) (rest := [.int (zI M b6 (((7 : Int32) * x1) + x5).toNatClampNeg), .int x4]) ⟨hx, hb, hml, hown, hts⟩ (m_X7_headIn l hL N e10 H.size) (cwV 3 hts gX7_matched_X7_headIn rfl rfl rfl (by decide +kernel) ⟨Nat.le_of_ble_eq_true rfl, Nat.le_of_ble_eq_true rfl⟩) (z_preV (q := (RX7, TX7, 20)) hK hL hE hW hS (zK_of g1) (by decide) rfl [.int x1, .long x2, .int x5]) rfl rfl hl.1 rfl (lv_room (Nat.le_of_ble_eq_true rfl)) dX7_matched_59 ⟨Nat.le_of_ble_eq_true rfl, Nat.le_of_ble_eq_true rfl⟩) (fun H locs hW hS => ?_)
      refine lv_icmp_ne (tgt := 69) hx hb dX7_matched_62 (by decide) (fun c11 => ?_) (fun c11 => ?_)
      · have h := zin c11 h
        refine lv_iconst (v := 0) hx hb dX7_matched_69 (by decide) ?_
        exact t_X7_matched_70 C0 N (fun h _ _ _ hW hS hl => ih h hW hS hl) h hW hS (lv_sub hl [0, 1, 2, 4] rfl)
      · have h := zip c11 h
        refine lv_iconst (v := 1) hx hb dX7_matched_65 (by decide) ?_
        refine lv_goto (tgt := 70) hx hb dX7_matched_66 (by decide) ?_
        exact t_X7_matched_70 C0 N (fun h _ _ _ hW hS hl => ih h hW hS hl) h hW hS (lv_sub hl [0, 1, 2, 4] rfl)
def f_X7_matched_0 (N : Nat) (K len : Nat → Nat) (x0 : Nat) (x1 : Int32) (M : ZM) : Option (Int32 × ZM) :=
zbp (f_X7_asksTree N K len x0 x1 (1 : Int32) M) fun q1 M3 => (
zg (K x0 == 8) (
(if q1 = 0 then
some ((0 : Int32), M3)
else
(zR M3 x0 15).bind fun b6 => (
zbp (f_X7_finds N K len x0 x1 (1 : Int32) M3) fun q8 M10 => (
zg (zok K len b6 12 q8) (
f_X7_matched_29 N K len  N x0 x1 (zJ M10 b6 q8.toNatClampNeg) (0 : Int32) (1 : Int32) M10))))))
set_option maxRecDepth 100000 in
set_option maxHeartbeats 4000000 in
theorem t_X7_matched_0 {p : Program} {l : Launch} {e : Env} {s : State} {m : MethodId} {args : Array Value} {below : List Frame} {meth : Method} {c : Code} {D : va_G} {cy : Nat → ClassId} {ad : Nat → Nat} {L : List Nat} {K len : Nat → Nat} (C0 : zCx p s m c meth args cX7_matched 6 wsX7_matched RX7 (some .int) D cy ad L K) (N : Nat) {x0 : Nat} {x1 : Int32} {M : ZM} {r : Int32} {Mr : ZM} (h : f_X7_matched_0 N K len x0 x1 M = some (r, Mr)) {H : Heap} {locs : List Loc} {ls : Array Slot} (hW : zWd D cy ad L K len M H) (hS : va_S (zA ad L s.heap.size) s.heap H locs) (hl : lv_has ls 6 [(0, .ref (ad x0)), (1, .int x1)]) : W p l e (headSpec wsX7_matched ({ frames := 6, cells := 0, slots := 0, locals := 147 } : Room)).room s m args below meth c H locs 0 0 (MQ below (zQi D cy ad L K len r Mr s.heap.size) args s 0 0 (zA ad L s.heap.size)) (F0 m 0 ls []) := by
  obtain ⟨hx, hb, hr, hml, hown, hts, hlocks, hK, hL, hE⟩ := id C0
  have hinX7 : ∀ w ∈ wsX70, w ∈ wsX7_matched := by decide +kernel
  unfold f_X7_matched_0 at h
  refine lv_aload_n hx hb dX7_matched_0 rfl (lv_at hl 0 rfl) ?_
  refine lv_iload_n hx hb dX7_matched_1 rfl (lv_at hl 1 rfl) ?_
  refine lv_iconst (v := 1) hx hb dX7_matched_2 (by decide) ?_
  obtain ⟨q1, M3, e2, h⟩ := zbp_some h
  obtain ⟨g4, h⟩ := zg_some h
  refine z_calli hS (va_runV (As := [.int x1, .int (1 : Int32)]) (rest := []) ⟨hx, hb, hml, hown, hts⟩ (m_X7_asksTree l hL N e2 H.size) (cwV 2 hts gX7_matched_X7_asksTree rfl rfl rfl (by decide +kernel) ⟨Nat.le_of_ble_eq_true rfl, Nat.le_of_ble_eq_true rfl⟩) (z_preV (q := (RX7, TX7, 20)) hK hL hE hW hS (zK_of g4) (by decide) rfl [.int x1, .int (1 : Int32)]) rfl rfl hl.1 rfl (lv_room (Nat.le_of_ble_eq_true rfl)) dX7_matched_3 ⟨Nat.le_of_ble_eq_true rfl, Nat.le_of_ble_eq_true rfl⟩) (fun H locs hW hS => ?_)
  refine lv_if_ne (tgt := 11) hx hb dX7_matched_6 (by decide) (fun c5 => ?_) (fun c5 => ?_)
  · have h := zin c5 h
    refine lv_aload_n hx hb dX7_matched_11 rfl (lv_at hl 0 rfl) ?_
    obtain ⟨b6, e7, h⟩ := zb_some h
    refine z_get (own := RX7) (C := RX7) (T := TX7) (N := 20) (ci := 7) hx hb hts hinX7 hown hK hL hW 15 (zK_of g4) rfl (by decide) (by decide) rfl (hts (.fieldLink RX7 42 "ArcLightModel" "bestKey" "[J") (by decide +kernel)) (v := .ref (ad b6)) (zhvR e7 rfl) dX7_matched_12 ?_
    refine lv_aload_n hx hb dX7_matched_15 rfl (lv_at hl 0 rfl) ?_
    refine lv_iload_n hx hb dX7_matched_16 rfl (lv_at hl 1 rfl) ?_
    refine lv_iconst (v := 1) hx hb dX7_matched_17 (by decide) ?_
    obtain ⟨q8, M10, e9, h⟩ := zbp_some h
    refine z_calli hS (va_runV (As := [.int x1, .int (1 : Int32)]) (rest := [.ref (ad b6)]) ⟨hx, hb, hml, hown, hts⟩ (m_X7_finds l hL N e9 H.size) (cwV 2 hts gX7_matched_X7_finds rfl rfl rfl (by decide +kernel) ⟨Nat.le_of_ble_eq_true rfl, Nat.le_of_ble_eq_true rfl⟩) (z_preV (q := (RX7, TX7, 20)) hK hL hE hW hS (zK_of g4) (by decide) rfl [.int x1, .int (1 : Int32)]) rfl rfl hl.1 rfl (lv_room (Nat.le_of_ble_eq_true rfl)) dX7_matched_18 ⟨Nat.le_of_ble_eq_true rfl, Nat.le_of_ble_eq_true rfl⟩) (fun H locs hW hS => ?_)
    obtain ⟨g11, h⟩ := zg_some h
    refine z_lald hx hb hK hL hW g11 dX7_matched_21 ?_
    refine lv_lstore_n (lv' := [(2, .long (zJ M10 b6 q8.toNatClampNeg)), (0, .ref (ad x0)), (1, .int x1)]) hx hb dX7_matched_22 rfl hl (by decide) rfl (fun ls hl => ?_)
    refine lv_iconst (v := 0) hx hb dX7_matched_23 (by decide) ?_
    refine lv_istore (lv' := [(4, .int (0 : Int32)), (2, .long (zJ M10 b6 q8.toNatClampNeg)), (0, .ref (ad x0)), (1, .int x1)]) hx hb dX7_matched_24 hl (by decide) rfl (fun ls hl => ?_)
    refine lv_iconst (v := 1) hx hb dX7_matched_26 (by decide) ?_
    refine lv_istore (lv' := [(5, .int (1 : Int32)), (4, .int (0 : Int32)), (2, .long (zJ M10 b6 q8.toNatClampNeg)), (0, .ref (ad x0)), (1, .int x1)]) hx hb dX7_matched_27 hl (by decide) rfl (fun ls hl => ?_)
    exact t_X7_matched_29 C0 N  N h hW hS (lv_sub hl [3, 4, 2, 1, 0] rfl)
  · have h := zip c5 h
    refine lv_iconst (v := 0) hx hb dX7_matched_9 (by decide) ?_
    exact z_iret hx hb hr hlocks hW hS (congrArg Prod.fst (Option.some.inj h)) (congrArg Prod.snd (Option.some.inj h)) dX7_matched_10
def f_X7_matched (N : Nat) (K len : Nat → Nat) (a0 : Nat) (a1 : Int32) (M : ZM) : Option (Int32 × ZM) := f_X7_matched_0 N K len a0 a1 M
set_option maxRecDepth 100000 in
set_option maxHeartbeats 4000000 in
theorem m_X7_matched (l : Launch) {D : va_G} {cy : Nat → ClassId} {ad : Nat → Nat} {L : List Nat} {K len : Nat → Nat} (hL : zSh ad L K) (N : Nat) {a0 : Nat} {a1 : Int32} {M : ZM} {r : Int32} {Mr : ZM} (h : f_X7_matched N K len a0 a1 M = some (r, Mr)) (sz : Nat) : Met l yX7_matched wsX7_matched ({ frames := 6, cells := 0, slots := 0, locals := 147 } : Room) (zPre D cy ad L K len sz [.ref (ad a0), .int a1] M) (zQi D cy ad L K len r Mr sz) 0 0 (zA ad L sz) :=
  z_entry (Qf := fun sz => zQi D cy ad L K len r Mr sz) (av := [.ref (ad a0), .int a1]) (by decide) rfl rfl hL (Nat.le_of_ble_eq_true rfl) (fun p e s m args below meth c C0 H locs ls hW hS hl => t_X7_matched_0 C0 N h hW hS (lv_sub hl [0, 1] rfl))
def f_X7_isRight_66 (N : Nat) (K len : Nat → Nat) (kh4 : Nat → Int32 → Int32 → Int32 → Option (Int32)) (x0 : Nat) (x1 : Int32) (x3 : Int32) (s0 : Int32) (M : ZM) : Option (Int32) :=
kh4 x0 x1 s0 (x3 + 1)
set_option maxRecDepth 100000 in
set_option maxHeartbeats 4000000 in
theorem t_X7_isRight_66 {p : Program} {l : Launch} {e : Env} {s : State} {m : MethodId} {args : Array Value} {below : List Frame} {meth : Method} {c : Code} {D : va_G} {cy : Nat → ClassId} {ad : Nat → Nat} {L : List Nat} {K len : Nat → Nat} (C0 : zCx p s m c meth args cX7_isRight 6 wsX7_isRight RX7 (some .boolean) D cy ad L K) (N : Nat) {kh4 : Nat → Int32 → Int32 → Int32 → Option (Int32)} {x0 : Nat} {x1 : Int32} {x3 : Int32} {s0 : Int32} {M : ZM} {r : Int32} (hk4 : ∀ {y0 : Nat} {y1 : Int32} {y2 : Int32} {y3 : Int32}, kh4 y0 y1 y2 y3 = some r → ∀ {H : Heap} {locs : List Loc} {ls : Array Slot}, zWd D cy ad L K len M H → va_S (zA ad L s.heap.size) s.heap H locs → lv_has ls 6 [(0, .ref (ad y0)), (1, .int y1), (2, .int y2), (3, .int y3)] → W p l e (headSpec wsX7_isRight ({ frames := 0, cells := 0, slots := 0, locals := 0 } : Room)).room s m args below meth c H locs 0 0 (MQ below (zQi D cy ad L K len r M s.heap.size) args s 0 0 (zA ad L s.heap.size)) (F0 m 4 ls [])) (h : f_X7_isRight_66 N K len kh4 x0 x1 x3 s0 M = some r) {H : Heap} {locs : List Loc} {ls : Array Slot} (hW : zWd D cy ad L K len M H) (hS : va_S (zA ad L s.heap.size) s.heap H locs) (hl : lv_has ls 6 [(0, .ref (ad x0)), (1, .int x1), (3, .int x3)]) : W p l e (headSpec wsX7_isRight ({ frames := 0, cells := 0, slots := 0, locals := 0 } : Room)).room s m args below meth c H locs 0 0 (MQ below (zQi D cy ad L K len r M s.heap.size) args s 0 0 (zA ad L s.heap.size)) (F0 m 66 ls [.int s0]) := by
  obtain ⟨hx, hb, hr, hml, hown, hts, hlocks, hK, hL, hE⟩ := id C0
  unfold f_X7_isRight_66 at h
  refine lv_istore_n (lv' := [(2, .int s0), (0, .ref (ad x0)), (1, .int x1), (3, .int x3)]) hx hb dX7_isRight_66 rfl hl (by decide) rfl (fun ls hl => ?_)
  refine lv_iinc (k := 3) (v := (x3 + 1)) (lv' := [(3, .int (x3 + 1)), (2, .int s0), (0, .ref (ad x0)), (1, .int x1)]) hx hb dX7_isRight_67 hl rfl (by rw [show Int32.ofInt 1 = (1 : Int32) from by decide]) (by decide) rfl (fun ls hl => ?_)
  refine lv_goto (tgt := 4) hx hb dX7_isRight_70 (by decide) ?_
  exact hk4 h hW hS (lv_sub hl [2, 3, 1, 0] rfl)
def f_X7_isRight_65 (N : Nat) (K len : Nat → Nat) (kh4 : Nat → Int32 → Int32 → Int32 → Option (Int32)) (x0 : Nat) (x1 : Int32) (x3 : Int32) (M : ZM) : Option (Int32) :=
f_X7_isRight_66 N K len kh4 x0 x1 x3 (0 : Int32) M
set_option maxRecDepth 100000 in
set_option maxHeartbeats 4000000 in
theorem t_X7_isRight_65 {p : Program} {l : Launch} {e : Env} {s : State} {m : MethodId} {args : Array Value} {below : List Frame} {meth : Method} {c : Code} {D : va_G} {cy : Nat → ClassId} {ad : Nat → Nat} {L : List Nat} {K len : Nat → Nat} (C0 : zCx p s m c meth args cX7_isRight 6 wsX7_isRight RX7 (some .boolean) D cy ad L K) (N : Nat) {kh4 : Nat → Int32 → Int32 → Int32 → Option (Int32)} {x0 : Nat} {x1 : Int32} {x3 : Int32} {M : ZM} {r : Int32} (hk4 : ∀ {y0 : Nat} {y1 : Int32} {y2 : Int32} {y3 : Int32}, kh4 y0 y1 y2 y3 = some r → ∀ {H : Heap} {locs : List Loc} {ls : Array Slot}, zWd D cy ad L K len M H → va_S (zA ad L s.heap.size) s.heap H locs → lv_has ls 6 [(0, .ref (ad y0)), (1, .int y1), (2, .int y2), (3, .int y3)] → W p l e (headSpec wsX7_isRight ({ frames := 0, cells := 0, slots := 0, locals := 0 } : Room)).room s m args below meth c H locs 0 0 (MQ below (zQi D cy ad L K len r M s.heap.size) args s 0 0 (zA ad L s.heap.size)) (F0 m 4 ls [])) (h : f_X7_isRight_65 N K len kh4 x0 x1 x3 M = some r) {H : Heap} {locs : List Loc} {ls : Array Slot} (hW : zWd D cy ad L K len M H) (hS : va_S (zA ad L s.heap.size) s.heap H locs) (hl : lv_has ls 6 [(0, .ref (ad x0)), (1, .int x1), (3, .int x3)]) : W p l e (headSpec wsX7_isRight ({ frames := 0, cells := 0, slots := 0, locals := 0 } : Room)).room s m args below meth c H locs 0 0 (MQ below (zQi D cy ad L K len r M s.heap.size) args s 0 0 (zA ad L s.heap.size)) (F0 m 65 ls []) := by
  obtain ⟨hx, hb, hr, hml, hown, hts, hlocks, hK, hL, hE⟩ := id C0
  unfold f_X7_isRight_65 at h
  refine lv_iconst (v := 0) hx hb dX7_isRight_65 (by decide) ?_
  exact t_X7_isRight_66 C0 N hk4 h hW hS (lv_sub hl [0, 1, 2] rfl)
def f_X7_isRight_52 (N : Nat) (K len : Nat → Nat) (kh4 : Nat → Int32 → Int32 → Int32 → Option (Int32)) (x0 : Nat) (x1 : Int32) (x2 : Int32) (x3 : Int32) (x4 : Int32) (M : ZM) : Option (Int32) :=
(if x2 = 0 then
f_X7_isRight_65 N K len kh4 x0 x1 x3 M
else
(if x4 = 0 then
f_X7_isRight_66 N K len kh4 x0 x1 x3 (1 : Int32) M
else
f_X7_isRight_65 N K len kh4 x0 x1 x3 M))
set_option maxRecDepth 100000 in
set_option maxHeartbeats 4000000 in
theorem t_X7_isRight_52 {p : Program} {l : Launch} {e : Env} {s : State} {m : MethodId} {args : Array Value} {below : List Frame} {meth : Method} {c : Code} {D : va_G} {cy : Nat → ClassId} {ad : Nat → Nat} {L : List Nat} {K len : Nat → Nat} (C0 : zCx p s m c meth args cX7_isRight 6 wsX7_isRight RX7 (some .boolean) D cy ad L K) (N : Nat) {kh4 : Nat → Int32 → Int32 → Int32 → Option (Int32)} {x0 : Nat} {x1 : Int32} {x2 : Int32} {x3 : Int32} {x4 : Int32} {M : ZM} {r : Int32} (hk4 : ∀ {y0 : Nat} {y1 : Int32} {y2 : Int32} {y3 : Int32}, kh4 y0 y1 y2 y3 = some r → ∀ {H : Heap} {locs : List Loc} {ls : Array Slot}, zWd D cy ad L K len M H → va_S (zA ad L s.heap.size) s.heap H locs → lv_has ls 6 [(0, .ref (ad y0)), (1, .int y1), (2, .int y2), (3, .int y3)] → W p l e (headSpec wsX7_isRight ({ frames := 0, cells := 0, slots := 0, locals := 0 } : Room)).room s m args below meth c H locs 0 0 (MQ below (zQi D cy ad L K len r M s.heap.size) args s 0 0 (zA ad L s.heap.size)) (F0 m 4 ls [])) (h : f_X7_isRight_52 N K len kh4 x0 x1 x2 x3 x4 M = some r) {H : Heap} {locs : List Loc} {ls : Array Slot} (hW : zWd D cy ad L K len M H) (hS : va_S (zA ad L s.heap.size) s.heap H locs) (hl : lv_has ls 6 [(0, .ref (ad x0)), (1, .int x1), (2, .int x2), (3, .int x3), (4, .int x4)]) : W p l e (headSpec wsX7_isRight ({ frames := 0, cells := 0, slots := 0, locals := 0 } : Room)).room s m args below meth c H locs 0 0 (MQ below (zQi D cy ad L K len r M s.heap.size) args s 0 0 (zA ad L s.heap.size)) (F0 m 52 ls []) := by
  obtain ⟨hx, hb, hr, hml, hown, hts, hlocks, hK, hL, hE⟩ := id C0
  unfold f_X7_isRight_52 at h
  refine lv_iload_n hx hb dX7_isRight_52 rfl (lv_at hl 2 rfl) ?_
  refine lv_if_eq (tgt := 65) hx hb dX7_isRight_53 (by decide) (fun c1 => ?_) (fun c1 => ?_)
  · have h := zip c1 h
    exact t_X7_isRight_65 C0 N hk4 h hW hS (lv_sub hl [0, 1, 3] rfl)
  · have h := zin c1 h
    refine lv_iload hx hb dX7_isRight_56 (lv_at hl 4 rfl) ?_
    refine lv_if_ne (tgt := 65) hx hb dX7_isRight_58 (by decide) (fun c2 => ?_) (fun c2 => ?_)
    · have h := zin c2 h
      exact t_X7_isRight_65 C0 N hk4 h hW hS (lv_sub hl [0, 1, 3] rfl)
    · have h := zip c2 h
      refine lv_iconst (v := 1) hx hb dX7_isRight_61 (by decide) ?_
      refine lv_goto (tgt := 66) hx hb dX7_isRight_62 (by decide) ?_
      exact t_X7_isRight_66 C0 N hk4 h hW hS (lv_sub hl [0, 1, 3] rfl)
def f_X7_isRight_20 (N : Nat) (K len : Nat → Nat) (kh4 : Nat → Int32 → Int32 → Int32 → Option (Int32)) : Nat → Nat → Int32 → Int32 → Int32 → Int32 → Int32 → ZM → Option (Int32)
  | 0, _, _, _, _, _, _, _ => none
  | n + 1, x0, x1, x2, x3, x4, x5, M =>
    (if (6 : Int32) ≤ x5 then
    f_X7_isRight_52 N K len kh4 x0 x1 x2 x3 x4 M
    else
    (if x4 ≤ 0 then
    f_X7_isRight_52 N K len kh4 x0 x1 x2 x3 x4 M
    else
    zg (K x0 == 8) (
    (zR M x0 4).bind fun b4 => (
    zg (zok K len b4 11 (((7 : Int32) * x1) + x4)) (
    f_X7_isRight_20 N K len kh4 n x0 x1 x2 x3 (zI M b4 (((7 : Int32) * x1) + x4).toNatClampNeg) (x5 + 1) M)))))
set_option maxRecDepth 100000 in
set_option maxHeartbeats 4000000 in
theorem t_X7_isRight_20 {p : Program} {l : Launch} {e : Env} {s : State} {m : MethodId} {args : Array Value} {below : List Frame} {meth : Method} {c : Code} {D : va_G} {cy : Nat → ClassId} {ad : Nat → Nat} {L : List Nat} {K len : Nat → Nat} (C0 : zCx p s m c meth args cX7_isRight 6 wsX7_isRight RX7 (some .boolean) D cy ad L K) (N : Nat) {kh4 : Nat → Int32 → Int32 → Int32 → Option (Int32)} {M : ZM} {r : Int32} (hk4 : ∀ {y0 : Nat} {y1 : Int32} {y2 : Int32} {y3 : Int32}, kh4 y0 y1 y2 y3 = some r → ∀ {H : Heap} {locs : List Loc} {ls : Array Slot}, zWd D cy ad L K len M H → va_S (zA ad L s.heap.size) s.heap H locs → lv_has ls 6 [(0, .ref (ad y0)), (1, .int y1), (2, .int y2), (3, .int y3)] → W p l e (headSpec wsX7_isRight ({ frames := 0, cells := 0, slots := 0, locals := 0 } : Room)).room s m args below meth c H locs 0 0 (MQ below (zQi D cy ad L K len r M s.heap.size) args s 0 0 (zA ad L s.heap.size)) (F0 m 4 ls [])) : ∀ (n : Nat) {x0 : Nat} {x1 : Int32} {x2 : Int32} {x3 : Int32} {x4 : Int32} {x5 : Int32}, f_X7_isRight_20 N K len kh4 n x0 x1 x2 x3 x4 x5 M = some r → ∀ {H : Heap} {locs : List Loc} {ls : Array Slot}, zWd D cy ad L K len M H → va_S (zA ad L s.heap.size) s.heap H locs → lv_has ls 6 [(0, .ref (ad x0)), (1, .int x1), (2, .int x2), (3, .int x3), (4, .int x4), (5, .int x5)] → W p l e (headSpec wsX7_isRight ({ frames := 0, cells := 0, slots := 0, locals := 0 } : Room)).room s m args below meth c H locs 0 0 (MQ below (zQi D cy ad L K len r M s.heap.size) args s 0 0 (zA ad L s.heap.size)) (F0 m 20 ls []) := by
  obtain ⟨hx, hb, hr, hml, hown, hts, hlocks, hK, hL, hE⟩ := id C0
  have hinX7 : ∀ w ∈ wsX70, w ∈ wsX7_isRight := by decide +kernel
  intro n
  induction n with
  | zero =>
    intro x0 x1 x2 x3 x4 x5 h
    cases (show (none : Option (Int32)) = some r from h)
  | succ n ih =>
    intro x0 x1 x2 x3 x4 x5 h H locs ls hW hS hl
    rw [f_X7_isRight_20] at h
    refine lv_iload hx hb dX7_isRight_20 (lv_at hl 5 rfl) ?_
    refine lv_bipush (v := 6) hx hb dX7_isRight_22 (by decide) ?_
    refine lv_icmp_ge (tgt := 52) hx hb dX7_isRight_24 (by decide) (fun c1 => ?_) (fun c1 => ?_)
    · have h := zip c1 h
      exact t_X7_isRight_52 C0 N hk4 h hW hS (lv_sub hl [0, 1, 2, 3, 4] rfl)
    · have h := zin c1 h
      refine lv_iload hx hb dX7_isRight_27 (lv_at hl 4 rfl) ?_
      refine lv_if_le (tgt := 52) hx hb dX7_isRight_29 (by decide) (fun c2 => ?_) (fun c2 => ?_)
      · have h := zip c2 h
        exact t_X7_isRight_52 C0 N hk4 h hW hS (lv_sub hl [0, 1, 2, 3, 4] rfl)
      · have h := zin c2 h
        refine lv_aload_n hx hb dX7_isRight_32 rfl (lv_at hl 0 rfl) ?_
        obtain ⟨g3, h⟩ := zg_some h
        obtain ⟨b4, e5, h⟩ := zb_some h
        refine z_get (own := RX7) (C := RX7) (T := TX7) (N := 20) (ci := 7) hx hb hts hinX7 hown hK hL hW 4 (zK_of g3) rfl (by decide) (by decide) rfl (hts (.fieldLink RX7 19 "ArcLightModel" "right" "[I") (by decide +kernel)) (v := .ref (ad b4)) (zhvR e5 rfl) dX7_isRight_33 ?_
        refine lv_bipush (v := 7) hx hb dX7_isRight_36 (by decide) ?_
        refine lv_iload_n hx hb dX7_isRight_38 rfl (lv_at hl 1 rfl) ?_
        refine lv_imul hx hb dX7_isRight_39 ?_
        refine lv_iload hx hb dX7_isRight_40 (lv_at hl 4 rfl) ?_
        refine lv_iadd hx hb dX7_isRight_42 ?_
        obtain ⟨g6, h⟩ := zg_some h
        refine z_iald hx hb hK hL hW g6 dX7_isRight_43 ?_
        refine lv_istore (lv' := [(4, .int (zI M b4 (((7 : Int32) * x1) + x4).toNatClampNeg)), (0, .ref (ad x0)), (1, .int x1), (2, .int x2), (3, .int x3), (5, .int x5)]) hx hb dX7_isRight_44 hl (by decide) rfl (fun ls hl => ?_)
        refine lv_iinc (k := 5) (v := (x5 + 1)) (lv' := [(5, .int (x5 + 1)), (4, .int (zI M b4 (((7 : Int32) * x1) + x4).toNatClampNeg)), (0, .ref (ad x0)), (1, .int x1), (2, .int x2), (3, .int x3)]) hx hb dX7_isRight_46 hl rfl (by rw [show Int32.ofInt 1 = (1 : Int32) from by decide]) (by decide) rfl (fun ls hl => ?_)
        refine lv_goto (tgt := 20) hx hb dX7_isRight_49 (by decide) ?_
        exact ih h hW hS (lv_sub hl [2, 3, 4, 5, 1, 0] rfl)
def f_X7_isRight_4 (N : Nat) (K len : Nat → Nat) : Nat → Nat → Int32 → Int32 → Int32 → ZM → Option (Int32)
  | 0, _, _, _, _, _ => none
  | n + 1, x0, x1, x2, x3, M =>
    zg (K x0 == 8) (
    (zR M x0 1).bind fun b2 => (
    zg (zok K len b2 11 x1) (
    (if (zI M b2 x1.toNatClampNeg) < x3 then
    zg (zbo x2) (
    some x2)
    else
    f_X7_isRight_20 N K len (fun y0 y1 y2 y3 => f_X7_isRight_4 N K len  n y0 y1 y2 y3 M) N x0 x1 x2 x3 x3 (0 : Int32) M))))
set_option maxRecDepth 100000 in
set_option maxHeartbeats 4000000 in
theorem t_X7_isRight_4 {p : Program} {l : Launch} {e : Env} {s : State} {m : MethodId} {args : Array Value} {below : List Frame} {meth : Method} {c : Code} {D : va_G} {cy : Nat → ClassId} {ad : Nat → Nat} {L : List Nat} {K len : Nat → Nat} (C0 : zCx p s m c meth args cX7_isRight 6 wsX7_isRight RX7 (some .boolean) D cy ad L K) (N : Nat) {M : ZM} {r : Int32} : ∀ (n : Nat) {x0 : Nat} {x1 : Int32} {x2 : Int32} {x3 : Int32}, f_X7_isRight_4 N K len n x0 x1 x2 x3 M = some r → ∀ {H : Heap} {locs : List Loc} {ls : Array Slot}, zWd D cy ad L K len M H → va_S (zA ad L s.heap.size) s.heap H locs → lv_has ls 6 [(0, .ref (ad x0)), (1, .int x1), (2, .int x2), (3, .int x3)] → W p l e (headSpec wsX7_isRight ({ frames := 0, cells := 0, slots := 0, locals := 0 } : Room)).room s m args below meth c H locs 0 0 (MQ below (zQi D cy ad L K len r M s.heap.size) args s 0 0 (zA ad L s.heap.size)) (F0 m 4 ls []) := by
  obtain ⟨hx, hb, hr, hml, hown, hts, hlocks, hK, hL, hE⟩ := id C0
  have hinX7 : ∀ w ∈ wsX70, w ∈ wsX7_isRight := by decide +kernel
  intro n
  induction n with
  | zero =>
    intro x0 x1 x2 x3 h
    cases (show (none : Option (Int32)) = some r from h)
  | succ n ih =>
    intro x0 x1 x2 x3 h H locs ls hW hS hl
    rw [f_X7_isRight_4] at h
    refine lv_iload_n hx hb dX7_isRight_4 rfl (lv_at hl 3 rfl) ?_
    refine lv_aload_n hx hb dX7_isRight_5 rfl (lv_at hl 0 rfl) ?_
    obtain ⟨g1, h⟩ := zg_some h
    obtain ⟨b2, e3, h⟩ := zb_some h
    refine z_get (own := RX7) (C := RX7) (T := TX7) (N := 20) (ci := 7) hx hb hts hinX7 hown hK hL hW 1 (zK_of g1) rfl (by decide) (by decide) rfl (hts (.fieldLink RX7 7 "ArcLightModel" "words" "[I") (by decide +kernel)) (v := .ref (ad b2)) (zhvR e3 rfl) dX7_isRight_6 ?_
    refine lv_iload_n hx hb dX7_isRight_9 rfl (lv_at hl 1 rfl) ?_
    obtain ⟨g4, h⟩ := zg_some h
    refine z_iald hx hb hK hL hW g4 dX7_isRight_10 ?_
    refine lv_icmp_gt (tgt := 73) hx hb dX7_isRight_11 (by decide) (fun c5 => ?_) (fun c5 => ?_)
    · have h := zip c5 h
      refine lv_iload_n hx hb dX7_isRight_73 rfl (lv_at hl 2 rfl) ?_
      obtain ⟨g6, h⟩ := zg_some h
      exact z_zret hx hb hr hlocks hW hS g6 (Option.some.inj h) rfl dX7_isRight_74
    · have h := zin c5 h
      refine lv_iload_n hx hb dX7_isRight_14 rfl (lv_at hl 3 rfl) ?_
      refine lv_istore (lv' := [(4, .int x3), (0, .ref (ad x0)), (1, .int x1), (2, .int x2), (3, .int x3)]) hx hb dX7_isRight_15 hl (by decide) rfl (fun ls hl => ?_)
      refine lv_iconst (v := 0) hx hb dX7_isRight_17 (by decide) ?_
      refine lv_istore (lv' := [(5, .int (0 : Int32)), (4, .int x3), (0, .ref (ad x0)), (1, .int x1), (2, .int x2), (3, .int x3)]) hx hb dX7_isRight_18 hl (by decide) rfl (fun ls hl => ?_)
      exact t_X7_isRight_20 C0 N (fun h _ _ _ hW hS hl => ih h hW hS hl) N h hW hS (lv_sub hl [2, 3, 4, 5, 1, 0] rfl)
def f_X7_isRight_0 (N : Nat) (K len : Nat → Nat) (x0 : Nat) (x1 : Int32) (M : ZM) : Option (Int32) :=
f_X7_isRight_4 N K len  N x0 x1 (1 : Int32) (1 : Int32) M
set_option maxRecDepth 100000 in
set_option maxHeartbeats 4000000 in
theorem t_X7_isRight_0 {p : Program} {l : Launch} {e : Env} {s : State} {m : MethodId} {args : Array Value} {below : List Frame} {meth : Method} {c : Code} {D : va_G} {cy : Nat → ClassId} {ad : Nat → Nat} {L : List Nat} {K len : Nat → Nat} (C0 : zCx p s m c meth args cX7_isRight 6 wsX7_isRight RX7 (some .boolean) D cy ad L K) (N : Nat) {x0 : Nat} {x1 : Int32} {M : ZM} {r : Int32} (h : f_X7_isRight_0 N K len x0 x1 M = some r) {H : Heap} {locs : List Loc} {ls : Array Slot} (hW : zWd D cy ad L K len M H) (hS : va_S (zA ad L s.heap.size) s.heap H locs) (hl : lv_has ls 6 [(0, .ref (ad x0)), (1, .int x1)]) : W p l e (headSpec wsX7_isRight ({ frames := 0, cells := 0, slots := 0, locals := 0 } : Room)).room s m args below meth c H locs 0 0 (MQ below (zQi D cy ad L K len r M s.heap.size) args s 0 0 (zA ad L s.heap.size)) (F0 m 0 ls []) := by
  obtain ⟨hx, hb, hr, hml, hown, hts, hlocks, hK, hL, hE⟩ := id C0
  unfold f_X7_isRight_0 at h
  refine lv_iconst (v := 1) hx hb dX7_isRight_0 (by decide) ?_
  refine lv_istore_n (lv' := [(2, .int (1 : Int32)), (0, .ref (ad x0)), (1, .int x1)]) hx hb dX7_isRight_1 rfl hl (by decide) rfl (fun ls hl => ?_)
  refine lv_iconst (v := 1) hx hb dX7_isRight_2 (by decide) ?_
  refine lv_istore_n (lv' := [(3, .int (1 : Int32)), (2, .int (1 : Int32)), (0, .ref (ad x0)), (1, .int x1)]) hx hb dX7_isRight_3 rfl hl (by decide) rfl (fun ls hl => ?_)
  exact t_X7_isRight_4 C0 N  N h hW hS (lv_sub hl [2, 3, 1, 0] rfl)
def f_X7_isRight (N : Nat) (K len : Nat → Nat) (a0 : Nat) (a1 : Int32) (M : ZM) : Option (Int32) := f_X7_isRight_0 N K len a0 a1 M
set_option maxRecDepth 100000 in
set_option maxHeartbeats 4000000 in
theorem m_X7_isRight (l : Launch) {D : va_G} {cy : Nat → ClassId} {ad : Nat → Nat} {L : List Nat} {K len : Nat → Nat} (hL : zSh ad L K) (N : Nat) {a0 : Nat} {a1 : Int32} {M : ZM} {r : Int32} (h : f_X7_isRight N K len a0 a1 M = some r) (sz : Nat) : Met l yX7_isRight wsX7_isRight ({ frames := 0, cells := 0, slots := 0, locals := 0 } : Room) (zPre D cy ad L K len sz [.ref (ad a0), .int a1] M) (zQi D cy ad L K len r M sz) 0 0 (zA ad L sz) :=
  z_entry (Qf := fun sz => zQi D cy ad L K len r M sz) (av := [.ref (ad a0), .int a1]) (by decide) rfl rfl hL (Nat.le_of_ble_eq_true rfl) (fun p e s m args below meth c C0 H locs ls hW hS hl => t_X7_isRight_0 C0 N h hW hS (lv_sub hl [0, 1] rfl))
def f_X7_adds_0 (N : Nat) (K len : Nat → Nat) (x0 : Nat) (x1 : Int32) (x2 : Int32) (x3 : Int32) (x4 : Int32) (M : ZM) : Option (ZM) :=
zg (K x0 == 8) (
(zR M x0 5).bind fun b2 => (
(f_X7_byKind N K len x0 x1 x2 x3 M).bind fun q4 => (
zg (zok K len b2 11 q4) (
zl (zsI M b2 q4.toNatClampNeg ((zI M b2 q4.toNatClampNeg) + x4)) fun M7 => (
(zR M7 x0 5).bind fun b9 => (
(f_X7_byDistance N x2 x3).bind fun q11 => (
zg (zok K len b9 11 q11) (
zl (zsI M7 b9 q11.toNatClampNeg ((zI M7 b9 q11.toNatClampNeg) + x4)) fun M14 => (
some M14)))))))))
set_option maxRecDepth 100000 in
set_option maxHeartbeats 4000000 in
theorem t_X7_adds_0 {p : Program} {l : Launch} {e : Env} {s : State} {m : MethodId} {args : Array Value} {below : List Frame} {meth : Method} {c : Code} {D : va_G} {cy : Nat → ClassId} {ad : Nat → Nat} {L : List Nat} {K len : Nat → Nat} (C0 : zCx p s m c meth args cX7_adds 5 wsX7_adds RX7 none D cy ad L K) (N : Nat) {x0 : Nat} {x1 : Int32} {x2 : Int32} {x3 : Int32} {x4 : Int32} {M : ZM} {Mr : ZM} (h : f_X7_adds_0 N K len x0 x1 x2 x3 x4 M = some Mr) {H : Heap} {locs : List Loc} {ls : Array Slot} (hW : zWd D cy ad L K len M H) (hS : va_S (zA ad L s.heap.size) s.heap H locs) (hl : lv_has ls 5 [(0, .ref (ad x0)), (1, .int x1), (2, .int x2), (3, .int x3), (4, .int x4)]) : W p l e (headSpec wsX7_adds ({ frames := 1, cells := 0, slots := 0, locals := 23 } : Room)).room s m args below meth c H locs 0 0 (MQ below (zQv D cy ad L K len Mr s.heap.size) args s 0 0 (zA ad L s.heap.size)) (F0 m 0 ls []) := by
  obtain ⟨hx, hb, hr, hml, hown, hts, hlocks, hK, hL, hE⟩ := id C0
  have hinX7 : ∀ w ∈ wsX70, w ∈ wsX7_adds := by decide +kernel
  unfold f_X7_adds_0 at h
  refine lv_aload_n hx hb dX7_adds_0 rfl (lv_at hl 0 rfl) ?_
  obtain ⟨g1, h⟩ := zg_some h
  obtain ⟨b2, e3, h⟩ := zb_some h
  refine z_get (own := RX7) (C := RX7) (T := TX7) (N := 20) (ci := 7) hx hb hts hinX7 hown hK hL hW 5 (zK_of g1) rfl (by decide) (by decide) rfl (hts (.fieldLink RX7 22 "ArcLightModel" "weight" "[I") (by decide +kernel)) (v := .ref (ad b2)) (zhvR e3 rfl) dX7_adds_1 ?_
  refine lv_aload_n hx hb dX7_adds_4 rfl (lv_at hl 0 rfl) ?_
  refine lv_iload_n hx hb dX7_adds_5 rfl (lv_at hl 1 rfl) ?_
  refine lv_iload_n hx hb dX7_adds_6 rfl (lv_at hl 2 rfl) ?_
  refine lv_iload_n hx hb dX7_adds_7 rfl (lv_at hl 3 rfl) ?_
  obtain ⟨q4, e5, h⟩ := zb_some h
  refine z_calli hS (va_runV (As := [.int x1, .int x2, .int x3]) (rest := [.ref (ad b2)]) ⟨hx, hb, hml, hown, hts⟩ (m_X7_byKind l hL N e5 H.size) (cwV 3 hts gX7_adds_X7_byKind rfl rfl rfl (by decide +kernel) ⟨Nat.le_of_ble_eq_true rfl, Nat.le_of_ble_eq_true rfl⟩) (z_preV (q := (RX7, TX7, 20)) hK hL hE hW hS (zK_of g1) (by decide) rfl [.int x1, .int x2, .int x3]) rfl rfl hl.1 rfl (lv_room (Nat.le_of_ble_eq_true rfl)) dX7_adds_8 ⟨Nat.le_of_ble_eq_true rfl, Nat.le_of_ble_eq_true rfl⟩) (fun H locs hW hS => ?_)
  refine lv_dup2_11 hx hb dX7_adds_11 rfl rfl ?_
  obtain ⟨g6, h⟩ := zg_some h
  refine z_iald hx hb hK hL hW g6 dX7_adds_12 ?_
  refine lv_iload hx hb dX7_adds_13 (lv_at hl 4 rfl) ?_
  refine lv_iadd hx hb dX7_adds_15 ?_
  refine z_iast hx hb hK hL hW hS g6 dX7_adds_16 (fun H locs hW hS => ?_)
  obtain ⟨M7, eM8, h⟩ := zl_some h
  rw [← eM8] at hW
  refine lv_aload_n hx hb dX7_adds_17 rfl (lv_at hl 0 rfl) ?_
  obtain ⟨b9, e10, h⟩ := zb_some h
  refine z_get (own := RX7) (C := RX7) (T := TX7) (N := 20) (ci := 7) hx hb hts hinX7 hown hK hL hW 5 (zK_of g1) rfl (by decide) (by decide) rfl (hts (.fieldLink RX7 22 "ArcLightModel" "weight" "[I") (by decide +kernel)) (v := .ref (ad b9)) (zhvR e10 rfl) dX7_adds_18 ?_
  refine lv_iload_n hx hb dX7_adds_21 rfl (lv_at hl 2 rfl) ?_
  refine lv_iload_n hx hb dX7_adds_22 rfl (lv_at hl 3 rfl) ?_
  obtain ⟨q11, e12, h⟩ := zb_some h
  refine z_calli hS (va_runS (As := [.int x2, .int x3]) (rest := [.ref (ad b9)]) ⟨hx, hb, hml, hown, hts⟩ (m_X7_byDistance l (M := M7) hL N e12 H.size) (va_cwS 2 hts gX7_adds_X7_byDistance rfl rfl rfl (by decide +kernel) ⟨Nat.le_of_ble_eq_true rfl, Nat.le_of_ble_eq_true rfl⟩) (z_preS hK hE hW hS [.int x2, .int x3]) rfl rfl hl.1 rfl (lv_room (Nat.le_of_ble_eq_true rfl)) dX7_adds_23 ⟨Nat.le_of_ble_eq_true rfl, Nat.le_of_ble_eq_true rfl⟩) (fun H locs hW hS => ?_)
  refine lv_dup2_11 hx hb dX7_adds_26 rfl rfl ?_
  obtain ⟨g13, h⟩ := zg_some h
  refine z_iald hx hb hK hL hW g13 dX7_adds_27 ?_
  refine lv_iload hx hb dX7_adds_28 (lv_at hl 4 rfl) ?_
  refine lv_iadd hx hb dX7_adds_30 ?_
  refine z_iast hx hb hK hL hW hS g13 dX7_adds_31 (fun H locs hW hS => ?_)
  obtain ⟨M14, eM15, h⟩ := zl_some h
  rw [← eM15] at hW
  exact z_vret hx hb hr hlocks hW hS (Option.some.inj h) dX7_adds_32
def f_X7_adds (N : Nat) (K len : Nat → Nat) (a0 : Nat) (a1 : Int32) (a2 : Int32) (a3 : Int32) (a4 : Int32) (M : ZM) : Option (ZM) := f_X7_adds_0 N K len a0 a1 a2 a3 a4 M
set_option maxRecDepth 100000 in
set_option maxHeartbeats 4000000 in
theorem m_X7_adds (l : Launch) {D : va_G} {cy : Nat → ClassId} {ad : Nat → Nat} {L : List Nat} {K len : Nat → Nat} (hL : zSh ad L K) (N : Nat) {a0 : Nat} {a1 : Int32} {a2 : Int32} {a3 : Int32} {a4 : Int32} {M : ZM} {Mr : ZM} (h : f_X7_adds N K len a0 a1 a2 a3 a4 M = some Mr) (sz : Nat) : Met l yX7_adds wsX7_adds ({ frames := 1, cells := 0, slots := 0, locals := 23 } : Room) (zPre D cy ad L K len sz [.ref (ad a0), .int a1, .int a2, .int a3, .int a4] M) (zQv D cy ad L K len Mr sz) 0 0 (zA ad L sz) :=
  z_entry (Qf := fun sz => zQv D cy ad L K len Mr sz) (av := [.ref (ad a0), .int a1, .int a2, .int a3, .int a4]) (by decide) rfl rfl hL (Nat.le_of_ble_eq_true rfl) (fun p e s m args below meth c C0 H locs ls hW hS hl => t_X7_adds_0 C0 N h hW hS (lv_sub hl [0, 1, 2, 3, 4] rfl))
def f_X7_mend_149 (N : Nat) (K len : Nat → Nat) : Nat → Nat → Int32 → Int32 → ZM → Option (Int32 × ZM)
  | 0, _, _, _, _ => none
  | n + 1, x0, x4, x5, M =>
    (if (28 : Int32) ≤ x5 then
    (f_X7_changed N K len x0 M).bind fun M4 => (
    zg (K x0 == 8) (
    some (x4, M4)))
    else
    zg (K x0 == 8) (
    (zR M x0 6).bind fun b7 => (
    zg (zok K len b7 12 x5) (
    (zR M x0 5).bind fun b10 => (
    zg (zok K len b10 11 x5) (
    zl (zsJ M b7 x5.toNatClampNeg ((zJ M b7 x5.toNatClampNeg) + (zI M b10 x5.toNatClampNeg).toInt64)) fun M13 => (
    f_X7_mend_149 N K len  n x0 x4 (x5 + 1) M13)))))))
set_option maxRecDepth 100000 in
set_option maxHeartbeats 4000000 in
theorem t_X7_mend_149 {p : Program} {l : Launch} {e : Env} {s : State} {m : MethodId} {args : Array Value} {below : List Frame} {meth : Method} {c : Code} {D : va_G} {cy : Nat → ClassId} {ad : Nat → Nat} {L : List Nat} {K len : Nat → Nat} (C0 : zCx p s m c meth args cX7_mend 8 wsX7_mend RX7 (some .int) D cy ad L K) (N : Nat) {r : Int32} {Mr : ZM} : ∀ (n : Nat) {x0 : Nat} {x4 : Int32} {x5 : Int32} {M : ZM}, f_X7_mend_149 N K len n x0 x4 x5 M = some (r, Mr) → ∀ {H : Heap} {locs : List Loc} {ls : Array Slot}, zWd D cy ad L K len M H → va_S (zA ad L s.heap.size) s.heap H locs → lv_has ls 8 [(0, .ref (ad x0)), (4, .int x4), (5, .int x5)] → W p l e (headSpec wsX7_mend ({ frames := 5, cells := 0, slots := 0, locals := 125 } : Room)).room s m args below meth c H locs 0 0 (MQ below (zQi D cy ad L K len r Mr s.heap.size) args s 0 0 (zA ad L s.heap.size)) (F0 m 149 ls []) := by
  obtain ⟨hx, hb, hr, hml, hown, hts, hlocks, hK, hL, hE⟩ := id C0
  have hinX7 : ∀ w ∈ wsX70, w ∈ wsX7_mend := by decide +kernel
  intro n
  induction n with
  | zero =>
    intro x0 x4 x5 M h
    cases (show (none : Option (Int32 × ZM)) = some (r, Mr) from h)
  | succ n ih =>
    intro x0 x4 x5 M h H locs ls hW hS hl
    rw [f_X7_mend_149] at h
    refine lv_iload hx hb dX7_mend_149 (lv_at hl 2 rfl) ?_
    refine lv_bipush (v := 28) hx hb dX7_mend_151 (by decide) ?_
    refine lv_icmp_ge (tgt := 180) hx hb dX7_mend_153 (by decide) (fun c1 => ?_) (fun c1 => ?_)
    · have h := zip c1 h
      refine lv_aload_n hx hb dX7_mend_180 rfl (lv_at hl 0 rfl) ?_
      obtain ⟨M4, e3, h⟩ := zb_some h
      obtain ⟨g5, h⟩ := zg_some h
      refine z_callv hS (va_runV (As := []) (rest := []) ⟨hx, hb, hml, hown, hts⟩ (m_X7_changed l hL N e3 H.size) (cwV 0 hts gX7_mend_X7_changed rfl rfl rfl (by decide +kernel) ⟨Nat.le_of_ble_eq_true rfl, Nat.le_of_ble_eq_true rfl⟩) (z_preV (q := (RX7, TX7, 20)) hK hL hE hW hS (zK_of g5) (by decide) rfl []) rfl rfl hl.1 rfl (lv_room (Nat.le_of_ble_eq_true rfl)) dX7_mend_181 ⟨Nat.le_of_ble_eq_true rfl, Nat.le_of_ble_eq_true rfl⟩) (fun H locs hW hS => ?_)
      refine lv_iload hx hb dX7_mend_184 (lv_at hl 1 rfl) ?_
      exact z_iret hx hb hr hlocks hW hS (congrArg Prod.fst (Option.some.inj h)) (congrArg Prod.snd (Option.some.inj h)) dX7_mend_186
    · have h := zin c1 h
      refine lv_aload_n hx hb dX7_mend_156 rfl (lv_at hl 0 rfl) ?_
      obtain ⟨g6, h⟩ := zg_some h
      obtain ⟨b7, e8, h⟩ := zb_some h
      refine z_get (own := RX7) (C := RX7) (T := TX7) (N := 20) (ci := 7) hx hb hts hinX7 hown hK hL hW 6 (zK_of g6) rfl (by decide) (by decide) rfl (hts (.fieldLink RX7 25 "ArcLightModel" "sum" "[J") (by decide +kernel)) (v := .ref (ad b7)) (zhvR e8 rfl) dX7_mend_157 ?_
      refine lv_iload hx hb dX7_mend_160 (lv_at hl 2 rfl) ?_
      refine lv_dup2_11 hx hb dX7_mend_162 rfl rfl ?_
      obtain ⟨g9, h⟩ := zg_some h
      refine z_lald hx hb hK hL hW g9 dX7_mend_163 ?_
      refine lv_aload_n hx hb dX7_mend_164 rfl (lv_at hl 0 rfl) ?_
      obtain ⟨b10, e11, h⟩ := zb_some h
      refine z_get (own := RX7) (C := RX7) (T := TX7) (N := 20) (ci := 7) hx hb hts hinX7 hown hK hL hW 5 (zK_of g6) rfl (by decide) (by decide) rfl (hts (.fieldLink RX7 22 "ArcLightModel" "weight" "[I") (by decide +kernel)) (v := .ref (ad b10)) (zhvR e11 rfl) dX7_mend_165 ?_
      refine lv_iload hx hb dX7_mend_168 (lv_at hl 2 rfl) ?_
      obtain ⟨g12, h⟩ := zg_some h
      refine z_iald hx hb hK hL hW g12 dX7_mend_170 ?_
      refine lv_i2l hx hb dX7_mend_171 rfl ?_
      refine lv_ladd hx hb dX7_mend_172 ?_
      refine z_last hx hb hK hL hW hS g9 dX7_mend_173 (fun H locs hW hS => ?_)
      obtain ⟨M13, eM14, h⟩ := zl_some h
      rw [← eM14] at hW
      refine lv_iinc (k := 2) (v := (x5 + 1)) (lv' := [(5, .int (x5 + 1)), (0, .ref (ad x0)), (4, .int x4)]) hx hb dX7_mend_174 hl rfl (by rw [show Int32.ofInt 1 = (1 : Int32) from by decide]) (by decide) rfl (fun ls hl => ?_)
      refine lv_goto (tgt := 149) hx hb dX7_mend_177 (by decide) ?_
      exact ih h hW hS (lv_sub hl [1, 2, 0] rfl)
def f_X7_mend_130 (N : Nat) (K len : Nat → Nat) (kh65 : Nat → Int32 → Int64 → Int32 → Int32 → ZM → Option (Int32 × ZM)) (x0 : Nat) (x1 : Int32) (x2 : Int64) (x4 : Int32) (x5 : Int32) (M : ZM) : Option (Int32 × ZM) :=
kh65 x0 x1 x2 x4 (x5 + 1) M
set_option maxRecDepth 100000 in
set_option maxHeartbeats 4000000 in
theorem t_X7_mend_130 {p : Program} {l : Launch} {e : Env} {s : State} {m : MethodId} {args : Array Value} {below : List Frame} {meth : Method} {c : Code} {D : va_G} {cy : Nat → ClassId} {ad : Nat → Nat} {L : List Nat} {K len : Nat → Nat} (C0 : zCx p s m c meth args cX7_mend 8 wsX7_mend RX7 (some .int) D cy ad L K) (N : Nat) {kh65 : Nat → Int32 → Int64 → Int32 → Int32 → ZM → Option (Int32 × ZM)} {x0 : Nat} {x1 : Int32} {x2 : Int64} {x4 : Int32} {x5 : Int32} {M : ZM} {r : Int32} {Mr : ZM} (hk65 : ∀ {y0 : Nat} {y1 : Int32} {y2 : Int64} {y4 : Int32} {y5 : Int32} {M : ZM}, kh65 y0 y1 y2 y4 y5 M = some (r, Mr) → ∀ {H : Heap} {locs : List Loc} {ls : Array Slot}, zWd D cy ad L K len M H → va_S (zA ad L s.heap.size) s.heap H locs → lv_has ls 8 [(0, .ref (ad y0)), (1, .int y1), (2, .long y2), (4, .int y4), (5, .int y5)] → W p l e (headSpec wsX7_mend ({ frames := 5, cells := 0, slots := 0, locals := 125 } : Room)).room s m args below meth c H locs 0 0 (MQ below (zQi D cy ad L K len r Mr s.heap.size) args s 0 0 (zA ad L s.heap.size)) (F0 m 65 ls [])) (h : f_X7_mend_130 N K len kh65 x0 x1 x2 x4 x5 M = some (r, Mr)) {H : Heap} {locs : List Loc} {ls : Array Slot} (hW : zWd D cy ad L K len M H) (hS : va_S (zA ad L s.heap.size) s.heap H locs) (hl : lv_has ls 8 [(0, .ref (ad x0)), (1, .int x1), (2, .long x2), (4, .int x4), (5, .int x5)]) : W p l e (headSpec wsX7_mend ({ frames := 5, cells := 0, slots := 0, locals := 125 } : Room)).room s m args below meth c H locs 0 0 (MQ below (zQi D cy ad L K len r Mr s.heap.size) args s 0 0 (zA ad L s.heap.size)) (F0 m 130 ls []) := by
  obtain ⟨hx, hb, hr, hml, hown, hts, hlocks, hK, hL, hE⟩ := id C0
  unfold f_X7_mend_130 at h
  refine lv_iinc (k := 4) (v := (x5 + 1)) (lv' := [(5, .int (x5 + 1)), (0, .ref (ad x0)), (1, .int x1), (2, .long x2), (4, .int x4)]) hx hb dX7_mend_130 hl rfl (by rw [show Int32.ofInt 1 = (1 : Int32) from by decide]) (by decide) rfl (fun ls hl => ?_)
  refine lv_goto (tgt := 65) hx hb dX7_mend_133 (by decide) ?_
  exact hk65 h hW hS (lv_sub hl [1, 2, 3, 4, 0] rfl)
def f_X7_mend_65 (N : Nat) (K len : Nat → Nat) : Nat → Nat → Int32 → Int64 → Int32 → Int32 → ZM → Option (Int32 × ZM)
  | 0, _, _, _, _, _, _ => none
  | n + 1, x0, x1, x2, x4, x5, M =>
    zg (K x0 == 8) (
    (zR M x0 1).bind fun b2 => (
    zg (zok K len b2 11 x1) (
    (if (zI M b2 x1.toNatClampNeg) < x5 then
    zl (zsI M x0 7 ((zI M x0 7) + (1 : Int32))) fun M6 => (
    f_X7_mend_149 N K len  N x0 x4 (0 : Int32) M6)
    else
    (zR M x0 4).bind fun b8 => (
    zg (zok K len b8 11 (((7 : Int32) * x1) + x5)) (
    (f_X7_headIn N K len x0 x1 x2 x5 M).bind fun q11 => (
    (if (zI M b8 (((7 : Int32) * x1) + x5).toNatClampNeg) = q11 then
    f_X7_mend_130 N K len (fun y0 y1 y2 y4 y5 M => f_X7_mend_65 N K len  n y0 y1 y2 y4 y5 M) x0 x1 x2 x4 x5 M
    else
    (f_X7_adds N K len x0 x1 (zI M b8 (((7 : Int32) * x1) + x5).toNatClampNeg) x5 (1 : Int32) M).bind fun M16 => (
    (f_X7_adds N K len x0 x1 q11 x5 (-1 : Int32) M16).bind fun M19 => (
    f_X7_mend_130 N K len (fun y0 y1 y2 y4 y5 M => f_X7_mend_65 N K len  n y0 y1 y2 y4 y5 M) x0 x1 x2 (x4 + 1) x5 M19))))))))))
set_option maxRecDepth 100000 in
set_option maxHeartbeats 4000000 in
theorem t_X7_mend_65 {p : Program} {l : Launch} {e : Env} {s : State} {m : MethodId} {args : Array Value} {below : List Frame} {meth : Method} {c : Code} {D : va_G} {cy : Nat → ClassId} {ad : Nat → Nat} {L : List Nat} {K len : Nat → Nat} (C0 : zCx p s m c meth args cX7_mend 8 wsX7_mend RX7 (some .int) D cy ad L K) (N : Nat) {r : Int32} {Mr : ZM} : ∀ (n : Nat) {x0 : Nat} {x1 : Int32} {x2 : Int64} {x4 : Int32} {x5 : Int32} {M : ZM}, f_X7_mend_65 N K len n x0 x1 x2 x4 x5 M = some (r, Mr) → ∀ {H : Heap} {locs : List Loc} {ls : Array Slot}, zWd D cy ad L K len M H → va_S (zA ad L s.heap.size) s.heap H locs → lv_has ls 8 [(0, .ref (ad x0)), (1, .int x1), (2, .long x2), (4, .int x4), (5, .int x5)] → W p l e (headSpec wsX7_mend ({ frames := 5, cells := 0, slots := 0, locals := 125 } : Room)).room s m args below meth c H locs 0 0 (MQ below (zQi D cy ad L K len r Mr s.heap.size) args s 0 0 (zA ad L s.heap.size)) (F0 m 65 ls []) := by
  obtain ⟨hx, hb, hr, hml, hown, hts, hlocks, hK, hL, hE⟩ := id C0
  have hinX7 : ∀ w ∈ wsX70, w ∈ wsX7_mend := by decide +kernel
  intro n
  induction n with
  | zero =>
    intro x0 x1 x2 x4 x5 M h
    cases (show (none : Option (Int32 × ZM)) = some (r, Mr) from h)
  | succ n ih =>
    intro x0 x1 x2 x4 x5 M h H locs ls hW hS hl
    rw [f_X7_mend_65] at h
    refine lv_iload hx hb dX7_mend_65 (lv_at hl 4 rfl) ?_
    refine lv_aload_n hx hb dX7_mend_67 rfl (lv_at hl 0 rfl) ?_
    obtain ⟨g1, h⟩ := zg_some h
    obtain ⟨b2, e3, h⟩ := zb_some h
    refine z_get (own := RX7) (C := RX7) (T := TX7) (N := 20) (ci := 7) hx hb hts hinX7 hown hK hL hW 1 (zK_of g1) rfl (by decide) (by decide) rfl (hts (.fieldLink RX7 7 "ArcLightModel" "words" "[I") (by decide +kernel)) (v := .ref (ad b2)) (zhvR e3 rfl) dX7_mend_68 ?_
    refine lv_iload_n hx hb dX7_mend_71 rfl (lv_at hl 1 rfl) ?_
    obtain ⟨g4, h⟩ := zg_some h
    refine z_iald hx hb hK hL hW g4 dX7_mend_72 ?_
    refine lv_icmp_gt (tgt := 136) hx hb dX7_mend_73 (by decide) (fun c5 => ?_) (fun c5 => ?_)
    · have h := zip c5 h
      refine lv_aload_n hx hb dX7_mend_136 rfl (lv_at hl 0 rfl) ?_
      refine lv_dup hx hb dX7_mend_137 rfl ?_
      refine z_get (own := RX7) (C := RX7) (T := TX7) (N := 20) (ci := 7) hx hb hts hinX7 hown hK hL hW 7 (zK_of g1) rfl (by decide) (by decide) rfl (hts (.fieldLink RX7 175 "ArcLightModel" "steps" "I") (by decide +kernel)) (v := .int (zI M x0 7)) rfl dX7_mend_138 ?_
      refine lv_iconst (v := 1) hx hb dX7_mend_141 (by decide) ?_
      refine lv_iadd hx hb dX7_mend_142 ?_
      refine z_put (own := RX7) (C := RX7) (T := TX7) (N := 20) (ci := 7) (v := .int ((zI M x0 7) + (1 : Int32))) (M' := zsI M x0 7 ((zI M x0 7) + (1 : Int32))) hx hb hts hinX7 tyX7 tyX7_ok nmX7 hown hK hL hW hS 7 (zK_of g1) rfl (by decide) (by decide) rfl (hts (.fieldLink RX7 175 "ArcLightModel" "steps" "I") (by decide +kernel)) rfl (ty := .int) (by decide +kernel) rfl rfl (Nat.le_of_ble_eq_true rfl) dX7_mend_143 (zM_I (zK_of g1) (by decide) rfl) (fun H locs hW hS => ?_)
      obtain ⟨M6, eM7, h⟩ := zl_some h
      rw [← eM7] at hW
      refine lv_iconst (v := 0) hx hb dX7_mend_146 (by decide) ?_
      refine lv_istore (lv' := [(5, .int (0 : Int32)), (0, .ref (ad x0)), (1, .int x1), (2, .long x2), (4, .int x4)]) hx hb dX7_mend_147 hl (by decide) rfl (fun ls hl => ?_)
      exact t_X7_mend_149 C0 N  N h hW hS (lv_sub hl [1, 4, 0] rfl)
    · have h := zin c5 h
      refine lv_aload_n hx hb dX7_mend_76 rfl (lv_at hl 0 rfl) ?_
      obtain ⟨b8, e9, h⟩ := zb_some h
      refine z_get (own := RX7) (C := RX7) (T := TX7) (N := 20) (ci := 7) hx hb hts hinX7 hown hK hL hW 4 (zK_of g1) rfl (by decide) (by decide) rfl (hts (.fieldLink RX7 19 "ArcLightModel" "right" "[I") (by decide +kernel)) (v := .ref (ad b8)) (zhvR e9 rfl) dX7_mend_77 ?_
      refine lv_bipush (v := 7) hx hb dX7_mend_80 (by decide) ?_
      refine lv_iload_n hx hb dX7_mend_82 rfl (lv_at hl 1 rfl) ?_
      refine lv_imul hx hb dX7_mend_83 ?_
      refine lv_iload hx hb dX7_mend_84 (lv_at hl 4 rfl) ?_
      refine lv_iadd hx hb dX7_mend_86 ?_
      obtain ⟨g10, h⟩ := zg_some h
      refine z_iald hx hb hK hL hW g10 dX7_mend_87 ?_
      refine lv_istore (lv' := [(6, .int (zI M b8 (((7 : Int32) * x1) + x5).toNatClampNeg)), (0, .ref (ad x0)), (1, .int x1), (2, .long x2), (4, .int x4), (5, .int x5)]) hx hb dX7_mend_88 hl (by decide) rfl (fun ls hl => ?_)
      refine lv_aload_n hx hb dX7_mend_90 rfl (lv_at hl 1 rfl) ?_
      refine lv_iload_n hx hb dX7_mend_91 rfl (lv_at hl 2 rfl) ?_
      refine lv_lload_n hx hb dX7_mend_92 rfl (lv_at hl 3 rfl) ?_
      refine lv_iload hx hb dX7_mend_93 (lv_at hl 5 rfl) ?_
      obtain ⟨q11, e12, h⟩ := zb_some h
      refine z_calli hS (va_runV (As := [.int x1, .long x2, .int x5]) (rest := []) ⟨hx, hb, hml, hown, hts⟩ (m_X7_headIn l hL N e12 H.size) (cwV 3 hts gX7_mend_X7_headIn rfl rfl rfl (by decide +kernel) ⟨Nat.le_of_ble_eq_true rfl, Nat.le_of_ble_eq_true rfl⟩) (z_preV (q := (RX7, TX7, 20)) hK hL hE hW hS (zK_of g1) (by decide) rfl [.int x1, .long x2, .int x5]) rfl rfl hl.1 rfl (lv_room (Nat.le_of_ble_eq_true rfl)) dX7_mend_95 ⟨Nat.le_of_ble_eq_true rfl, Nat.le_of_ble_eq_true rfl⟩) (fun H locs hW hS => ?_)
      refine lv_istore (lv' := [(7, .int q11), (6, .int (zI M b8 (((7 : Int32) * x1) + x5).toNatClampNeg)), (0, .ref (ad x0)), (1, .int x1), (2, .long x2), (4, .int x4), (5, .int x5)]) hx hb dX7_mend_98 hl (by decide) rfl (fun ls hl => ?_)
      refine lv_iload hx hb dX7_mend_100 (lv_at hl 1 rfl) ?_
      refine lv_iload hx hb dX7_mend_102 (lv_at hl 0 rfl) ?_
      refine lv_icmp_eq (tgt := 130) hx hb dX7_mend_104 (by decide) (fun c13 => ?_) (fun c13 => ?_)
      · have h := zip c13 h
        exact t_X7_mend_130 C0 N (fun h _ _ _ hW hS hl => ih h hW hS hl) h hW hS (lv_sub hl [2, 3, 4, 5, 6] rfl)
      · have h := zin c13 h
        refine lv_aload_n hx hb dX7_mend_107 rfl (lv_at hl 2 rfl) ?_
        refine lv_iload_n hx hb dX7_mend_108 rfl (lv_at hl 3 rfl) ?_
        refine lv_iload hx hb dX7_mend_109 (lv_at hl 1 rfl) ?_
        refine lv_iload hx hb dX7_mend_111 (lv_at hl 6 rfl) ?_
        refine lv_iconst (v := 1) hx hb dX7_mend_113 (by decide) ?_
        obtain ⟨M16, e15, h⟩ := zb_some h
        refine z_callv hS (va_runV (As := [.int x1, .int (zI M b8 (((7 : Int32) * x1) + x5).toNatClampNeg), .int x5, .int (1 : Int32)]) (rest := []) ⟨hx, hb, hml, hown, hts⟩ (m_X7_adds l hL N e15 H.size) (cwV 4 hts gX7_mend_X7_adds rfl rfl rfl (by decide +kernel) ⟨Nat.le_of_ble_eq_true rfl, Nat.le_of_ble_eq_true rfl⟩) (z_preV (q := (RX7, TX7, 20)) hK hL hE hW hS (zK_of g1) (by decide) rfl [.int x1, .int (zI M b8 (((7 : Int32) * x1) + x5).toNatClampNeg), .int x5, .int (1 : Int32)]) rfl rfl hl.1 rfl (lv_room (Nat.le_of_ble_eq_true rfl)) dX7_mend_114 ⟨Nat.le_of_ble_eq_true rfl, Nat.le_of_ble_eq_true rfl⟩) (fun H locs hW hS => ?_)
        refine lv_aload_n hx hb dX7_mend_117 rfl (lv_at hl 2 rfl) ?_
        refine lv_iload_n hx hb dX7_mend_118 rfl (lv_at hl 3 rfl) ?_
        refine lv_iload hx hb dX7_mend_119 (lv_at hl 0 rfl) ?_
        refine lv_iload hx hb dX7_mend_121 (lv_at hl 6 rfl) ?_
        refine lv_iconst (v := -1) hx hb dX7_mend_123 (by decide) ?_
        obtain ⟨M19, e18, h⟩ := zb_some h
        refine z_callv hS (va_runV (As := [.int x1, .int q11, .int x5, .int (-1 : Int32)]) (rest := []) ⟨hx, hb, hml, hown, hts⟩ (m_X7_adds l hL N e18 H.size) (cwV 4 hts gX7_mend_X7_adds rfl rfl rfl (by decide +kernel) ⟨Nat.le_of_ble_eq_true rfl, Nat.le_of_ble_eq_true rfl⟩) (z_preV (q := (RX7, TX7, 20)) hK hL hE hW hS (zK_of g1) (by decide) rfl [.int x1, .int q11, .int x5, .int (-1 : Int32)]) rfl rfl hl.1 rfl (lv_room (Nat.le_of_ble_eq_true rfl)) dX7_mend_124 ⟨Nat.le_of_ble_eq_true rfl, Nat.le_of_ble_eq_true rfl⟩) (fun H locs hW hS => ?_)
        refine lv_iinc (k := 5) (v := (x4 + 1)) (lv' := [(4, .int (x4 + 1)), (7, .int q11), (6, .int (zI M b8 (((7 : Int32) * x1) + x5).toNatClampNeg)), (0, .ref (ad x0)), (1, .int x1), (2, .long x2), (5, .int x5)]) hx hb dX7_mend_127 hl rfl (by rw [show Int32.ofInt 1 = (1 : Int32) from by decide]) (by decide) rfl (fun ls hl => ?_)
        exact t_X7_mend_130 C0 N (fun h _ _ _ hW hS hl => ih h hW hS hl) h hW hS (lv_sub hl [3, 4, 5, 0, 6] rfl)
def f_X7_mend_36 (N : Nat) (K len : Nat → Nat) (x0 : Nat) (M : ZM) : Option (Int32 × ZM) :=
zbp (f_X7_fails N K len x0 (2 : Int32) M) fun q1 M3 => (
zg (K x0 == 8) (
some (q1, M3)))
set_option maxRecDepth 100000 in
set_option maxHeartbeats 4000000 in
theorem t_X7_mend_36 {p : Program} {l : Launch} {e : Env} {s : State} {m : MethodId} {args : Array Value} {below : List Frame} {meth : Method} {c : Code} {D : va_G} {cy : Nat → ClassId} {ad : Nat → Nat} {L : List Nat} {K len : Nat → Nat} (C0 : zCx p s m c meth args cX7_mend 8 wsX7_mend RX7 (some .int) D cy ad L K) (N : Nat) {x0 : Nat} {M : ZM} {r : Int32} {Mr : ZM} (h : f_X7_mend_36 N K len x0 M = some (r, Mr)) {H : Heap} {locs : List Loc} {ls : Array Slot} (hW : zWd D cy ad L K len M H) (hS : va_S (zA ad L s.heap.size) s.heap H locs) (hl : lv_has ls 8 [(0, .ref (ad x0))]) : W p l e (headSpec wsX7_mend ({ frames := 5, cells := 0, slots := 0, locals := 125 } : Room)).room s m args below meth c H locs 0 0 (MQ below (zQi D cy ad L K len r Mr s.heap.size) args s 0 0 (zA ad L s.heap.size)) (F0 m 36 ls []) := by
  obtain ⟨hx, hb, hr, hml, hown, hts, hlocks, hK, hL, hE⟩ := id C0
  unfold f_X7_mend_36 at h
  refine lv_aload_n hx hb dX7_mend_36 rfl (lv_at hl 0 rfl) ?_
  refine lv_iconst (v := 2) hx hb dX7_mend_37 (by decide) ?_
  obtain ⟨q1, M3, e2, h⟩ := zbp_some h
  obtain ⟨g4, h⟩ := zg_some h
  refine z_calli hS (va_runV (As := [.int (2 : Int32)]) (rest := []) ⟨hx, hb, hml, hown, hts⟩ (m_X7_fails l hL N e2 H.size) (cwV 1 hts gX7_mend_X7_fails rfl rfl rfl (by decide +kernel) ⟨Nat.le_of_ble_eq_true rfl, Nat.le_of_ble_eq_true rfl⟩) (z_preV (q := (RX7, TX7, 20)) hK hL hE hW hS (zK_of g4) (by decide) rfl [.int (2 : Int32)]) rfl rfl hl.1 rfl (lv_room (Nat.le_of_ble_eq_true rfl)) dX7_mend_38 ⟨Nat.le_of_ble_eq_true rfl, Nat.le_of_ble_eq_true rfl⟩) (fun H locs hW hS => ?_)
  exact z_iret hx hb hr hlocks hW hS (congrArg Prod.fst (Option.some.inj h)) (congrArg Prod.snd (Option.some.inj h)) dX7_mend_41
def f_X7_mend_0 (N : Nat) (K len : Nat → Nat) (x0 : Nat) (x1 : Int32) (M : ZM) : Option (Int32 × ZM) :=
(f_X7_isSentence N K len x0 x1 M).bind fun q1 => (
zg (K x0 == 8) (
zbp (f_X7_asks N K len x0 q1 M) fun q4 M6 => (
(if q4 = 0 then
some ((0 : Int32), M6)
else
(f_X7_isRight N K len x0 x1 M6).bind fun q8 => (
(if q8 = 0 then
f_X7_mend_36 N K len  x0 M6
else
(zR M6 x0 16).bind fun b11 => (
zbp (f_X7_finds N K len x0 x1 (1 : Int32) M6) fun q13 M15 => (
zg (zok K len b11 11 q13) (
(if (zI M15 b11 q13.toNatClampNeg) = 0 then
f_X7_mend_36 N K len  x0 M15
else
(zR M15 x0 15).bind fun b18 => (
zbp (f_X7_finds N K len x0 x1 (1 : Int32) M15) fun q20 M22 => (
zg (zok K len b18 12 q20) (
(f_X7_remembers N K len x0 (-1 : Int32) M22).bind fun M26 => (
f_X7_mend_65 N K len  N x0 x1 (zJ M22 b18 q20.toNatClampNeg) (0 : Int32) (1 : Int32) M26))))))))))))))
set_option maxRecDepth 100000 in
set_option maxHeartbeats 4000000 in
theorem t_X7_mend_0 {p : Program} {l : Launch} {e : Env} {s : State} {m : MethodId} {args : Array Value} {below : List Frame} {meth : Method} {c : Code} {D : va_G} {cy : Nat → ClassId} {ad : Nat → Nat} {L : List Nat} {K len : Nat → Nat} (C0 : zCx p s m c meth args cX7_mend 8 wsX7_mend RX7 (some .int) D cy ad L K) (N : Nat) {x0 : Nat} {x1 : Int32} {M : ZM} {r : Int32} {Mr : ZM} (h : f_X7_mend_0 N K len x0 x1 M = some (r, Mr)) {H : Heap} {locs : List Loc} {ls : Array Slot} (hW : zWd D cy ad L K len M H) (hS : va_S (zA ad L s.heap.size) s.heap H locs) (hl : lv_has ls 8 [(0, .ref (ad x0)), (1, .int x1)]) : W p l e (headSpec wsX7_mend ({ frames := 5, cells := 0, slots := 0, locals := 125 } : Room)).room s m args below meth c H locs 0 0 (MQ below (zQi D cy ad L K len r Mr s.heap.size) args s 0 0 (zA ad L s.heap.size)) (F0 m 0 ls []) := by
  obtain ⟨hx, hb, hr, hml, hown, hts, hlocks, hK, hL, hE⟩ := id C0
  have hinX7 : ∀ w ∈ wsX70, w ∈ wsX7_mend := by decide +kernel
  unfold f_X7_mend_0 at h
  refine lv_aload_n hx hb dX7_mend_0 rfl (lv_at hl 0 rfl) ?_
  refine lv_aload_n hx hb dX7_mend_1 rfl (lv_at hl 0 rfl) ?_
  refine lv_iload_n hx hb dX7_mend_2 rfl (lv_at hl 1 rfl) ?_
  obtain ⟨q1, e2, h⟩ := zb_some h
  obtain ⟨g3, h⟩ := zg_some h
  refine z_calli hS (va_runV (As := [.int x1]) (rest := [.ref (ad x0)]) ⟨hx, hb, hml, hown, hts⟩ (m_X7_isSentence l hL N e2 H.size) (cwV 1 hts gX7_mend_X7_isSentence rfl rfl rfl (by decide +kernel) ⟨Nat.le_of_ble_eq_true rfl, Nat.le_of_ble_eq_true rfl⟩) (z_preV (q := (RX7, TX7, 20)) hK hL hE hW hS (zK_of g3) (by decide) rfl [.int x1]) rfl rfl hl.1 rfl (lv_room (Nat.le_of_ble_eq_true rfl)) dX7_mend_3 ⟨Nat.le_of_ble_eq_true rfl, Nat.le_of_ble_eq_true rfl⟩) (fun H locs hW hS => ?_)
  obtain ⟨q4, M6, e5, h⟩ := zbp_some h
  refine z_calli hS (va_runV (As := [.int q1]) (rest := []) ⟨hx, hb, hml, hown, hts⟩ (m_X7_asks l hL N e5 H.size) (cwV 1 hts gX7_mend_X7_asks rfl rfl rfl (by decide +kernel) ⟨Nat.le_of_ble_eq_true rfl, Nat.le_of_ble_eq_true rfl⟩) (z_preV (q := (RX7, TX7, 20)) hK hL hE hW hS (zK_of g3) (by decide) rfl [.int q1]) rfl rfl hl.1 rfl (lv_room (Nat.le_of_ble_eq_true rfl)) dX7_mend_6 ⟨Nat.le_of_ble_eq_true rfl, Nat.le_of_ble_eq_true rfl⟩) (fun H locs hW hS => ?_)
  refine lv_if_ne (tgt := 14) hx hb dX7_mend_9 (by decide) (fun c7 => ?_) (fun c7 => ?_)
  · have h := zin c7 h
    refine lv_aload_n hx hb dX7_mend_14 rfl (lv_at hl 0 rfl) ?_
    refine lv_iload_n hx hb dX7_mend_15 rfl (lv_at hl 1 rfl) ?_
    obtain ⟨q8, e9, h⟩ := zb_some h
    refine z_calli hS (va_runV (As := [.int x1]) (rest := []) ⟨hx, hb, hml, hown, hts⟩ (m_X7_isRight l hL N e9 H.size) (cwV 1 hts gX7_mend_X7_isRight rfl rfl rfl (by decide +kernel) ⟨Nat.le_of_ble_eq_true rfl, Nat.le_of_ble_eq_true rfl⟩) (z_preV (q := (RX7, TX7, 20)) hK hL hE hW hS (zK_of g3) (by decide) rfl [.int x1]) rfl rfl hl.1 rfl (lv_room (Nat.le_of_ble_eq_true rfl)) dX7_mend_16 ⟨Nat.le_of_ble_eq_true rfl, Nat.le_of_ble_eq_true rfl⟩) (fun H locs hW hS => ?_)
    refine lv_if_eq (tgt := 36) hx hb dX7_mend_19 (by decide) (fun c10 => ?_) (fun c10 => ?_)
    · have h := zip c10 h
      exact t_X7_mend_36 C0 N  h hW hS (lv_sub hl [0] rfl)
    · have h := zin c10 h
      refine lv_aload_n hx hb dX7_mend_22 rfl (lv_at hl 0 rfl) ?_
      obtain ⟨b11, e12, h⟩ := zb_some h
      refine z_get (own := RX7) (C := RX7) (T := TX7) (N := 20) (ci := 7) hx hb hts hinX7 hown hK hL hW 16 (zK_of g3) rfl (by decide) (by decide) rfl (hts (.fieldLink RX7 45 "ArcLightModel" "count" "[I") (by decide +kernel)) (v := .ref (ad b11)) (zhvR e12 rfl) dX7_mend_23 ?_
      refine lv_aload_n hx hb dX7_mend_26 rfl (lv_at hl 0 rfl) ?_
      refine lv_iload_n hx hb dX7_mend_27 rfl (lv_at hl 1 rfl) ?_
      refine lv_iconst (v := 1) hx hb dX7_mend_28 (by decide) ?_
      obtain ⟨q13, M15, e14, h⟩ := zbp_some h
      refine z_calli hS (va_runV (As := [.int x1, .int (1 : Int32)]) (rest := [.ref (ad b11)]) ⟨hx, hb, hml, hown, hts⟩ (m_X7_finds l hL N e14 H.size) (cwV 2 hts gX7_mend_X7_finds rfl rfl rfl (by decide +kernel) ⟨Nat.le_of_ble_eq_true rfl, Nat.le_of_ble_eq_true rfl⟩) (z_preV (q := (RX7, TX7, 20)) hK hL hE hW hS (zK_of g3) (by decide) rfl [.int x1, .int (1 : Int32)]) rfl rfl hl.1 rfl (lv_room (Nat.le_of_ble_eq_true rfl)) dX7_mend_29 ⟨Nat.le_of_ble_eq_true rfl, Nat.le_of_ble_eq_true rfl⟩) (fun H locs hW hS => ?_)
      obtain ⟨g16, h⟩ := zg_some h
      refine z_iald hx hb hK hL hW g16 dX7_mend_32 ?_
      refine lv_if_ne (tgt := 42) hx hb dX7_mend_33 (by decide) (fun c17 => ?_) (fun c17 => ?_)
      · have h := zin c17 h
        refine lv_aload_n hx hb dX7_mend_42 rfl (lv_at hl 0 rfl) ?_
        obtain ⟨b18, e19, h⟩ := zb_some h
        refine z_get (own := RX7) (C := RX7) (T := TX7) (N := 20) (ci := 7) hx hb hts hinX7 hown hK hL hW 15 (zK_of g3) rfl (by decide) (by decide) rfl (hts (.fieldLink RX7 42 "ArcLightModel" "bestKey" "[J") (by decide +kernel)) (v := .ref (ad b18)) (zhvR e19 rfl) dX7_mend_43 ?_
        refine lv_aload_n hx hb dX7_mend_46 rfl (lv_at hl 0 rfl) ?_
        refine lv_iload_n hx hb dX7_mend_47 rfl (lv_at hl 1 rfl) ?_
        refine lv_iconst (v := 1) hx hb dX7_mend_48 (by decide) ?_
        obtain ⟨q20, M22, e21, h⟩ := zbp_some h
        refine z_calli hS (va_runV (As := [.int x1, .int (1 : Int32)]) (rest := [.ref (ad b18)]) ⟨hx, hb, hml, hown, hts⟩ (m_X7_finds l hL N e21 H.size) (cwV 2 hts gX7_mend_X7_finds rfl rfl rfl (by decide +kernel) ⟨Nat.le_of_ble_eq_true rfl, Nat.le_of_ble_eq_true rfl⟩) (z_preV (q := (RX7, TX7, 20)) hK hL hE hW hS (zK_of g3) (by decide) rfl [.int x1, .int (1 : Int32)]) rfl rfl hl.1 rfl (lv_room (Nat.le_of_ble_eq_true rfl)) dX7_mend_49 ⟨Nat.le_of_ble_eq_true rfl, Nat.le_of_ble_eq_true rfl⟩) (fun H locs hW hS => ?_)
        obtain ⟨g23, h⟩ := zg_some h
        refine z_lald hx hb hK hL hW g23 dX7_mend_52 ?_
        refine lv_lstore_n (lv' := [(2, .long (zJ M22 b18 q20.toNatClampNeg)), (0, .ref (ad x0)), (1, .int x1)]) hx hb dX7_mend_53 rfl hl (by decide) rfl (fun ls hl => ?_)
        refine lv_aload_n hx hb dX7_mend_54 rfl (lv_at hl 1 rfl) ?_
        refine lv_iconst (v := -1) hx hb dX7_mend_55 (by decide) ?_
        obtain ⟨M26, e25, h⟩ := zb_some h
        refine z_callv hS (va_runV (As := [.int (-1 : Int32)]) (rest := []) ⟨hx, hb, hml, hown, hts⟩ (m_X7_remembers l hL N e25 H.size) (cwV 1 hts gX7_mend_X7_remembers rfl rfl rfl (by decide +kernel) ⟨Nat.le_of_ble_eq_true rfl, Nat.le_of_ble_eq_true rfl⟩) (z_preV (q := (RX7, TX7, 20)) hK hL hE hW hS (zK_of g3) (by decide) rfl [.int (-1 : Int32)]) rfl rfl hl.1 rfl (lv_room (Nat.le_of_ble_eq_true rfl)) dX7_mend_56 ⟨Nat.le_of_ble_eq_true rfl, Nat.le_of_ble_eq_true rfl⟩) (fun H locs hW hS => ?_)
        refine lv_iconst (v := 0) hx hb dX7_mend_59 (by decide) ?_
        refine lv_istore (lv' := [(4, .int (0 : Int32)), (2, .long (zJ M22 b18 q20.toNatClampNeg)), (0, .ref (ad x0)), (1, .int x1)]) hx hb dX7_mend_60 hl (by decide) rfl (fun ls hl => ?_)
        refine lv_iconst (v := 1) hx hb dX7_mend_62 (by decide) ?_
        refine lv_istore (lv' := [(5, .int (1 : Int32)), (4, .int (0 : Int32)), (2, .long (zJ M22 b18 q20.toNatClampNeg)), (0, .ref (ad x0)), (1, .int x1)]) hx hb dX7_mend_63 hl (by decide) rfl (fun ls hl => ?_)
        exact t_X7_mend_65 C0 N  N h hW hS (lv_sub hl [3, 4, 2, 1, 0] rfl)
      · have h := zip c17 h
        exact t_X7_mend_36 C0 N  h hW hS (lv_sub hl [0] rfl)
  · have h := zip c7 h
    refine lv_iconst (v := 0) hx hb dX7_mend_12 (by decide) ?_
    exact z_iret hx hb hr hlocks hW hS (congrArg Prod.fst (Option.some.inj h)) (congrArg Prod.snd (Option.some.inj h)) dX7_mend_13
def f_X7_mend (N : Nat) (K len : Nat → Nat) (a0 : Nat) (a1 : Int32) (M : ZM) : Option (Int32 × ZM) := f_X7_mend_0 N K len a0 a1 M
set_option maxRecDepth 100000 in
set_option maxHeartbeats 4000000 in
theorem m_X7_mend (l : Launch) {D : va_G} {cy : Nat → ClassId} {ad : Nat → Nat} {L : List Nat} {K len : Nat → Nat} (hL : zSh ad L K) (N : Nat) {a0 : Nat} {a1 : Int32} {M : ZM} {r : Int32} {Mr : ZM} (h : f_X7_mend N K len a0 a1 M = some (r, Mr)) (sz : Nat) : Met l yX7_mend wsX7_mend ({ frames := 5, cells := 0, slots := 0, locals := 125 } : Room) (zPre D cy ad L K len sz [.ref (ad a0), .int a1] M) (zQi D cy ad L K len r Mr sz) 0 0 (zA ad L sz) :=
  z_entry (Qf := fun sz => zQi D cy ad L K len r Mr sz) (av := [.ref (ad a0), .int a1]) (by decide) rfl rfl hL (Nat.le_of_ble_eq_true rfl) (fun p e s m args below meth c C0 H locs ls hW hS hl => t_X7_mend_0 C0 N h hW hS (lv_sub hl [0, 1] rfl))
def f_X7_steps_0 (N : Nat) (K len : Nat → Nat) (x0 : Nat) (M : ZM) : Option (Int32 × ZM) :=
zg (K x0 == 8) (
zl (zsI M x0 19 (0 : Int32)) fun M2 => (
some ((zI M2 x0 7), M2)))
set_option maxRecDepth 100000 in
set_option maxHeartbeats 4000000 in
theorem t_X7_steps_0 {p : Program} {l : Launch} {e : Env} {s : State} {m : MethodId} {args : Array Value} {below : List Frame} {meth : Method} {c : Code} {D : va_G} {cy : Nat → ClassId} {ad : Nat → Nat} {L : List Nat} {K len : Nat → Nat} (C0 : zCx p s m c meth args cX7_steps 1 wsX7_steps RX7 (some .int) D cy ad L K) (N : Nat) {x0 : Nat} {M : ZM} {r : Int32} {Mr : ZM} (h : f_X7_steps_0 N K len x0 M = some (r, Mr)) {H : Heap} {locs : List Loc} {ls : Array Slot} (hW : zWd D cy ad L K len M H) (hS : va_S (zA ad L s.heap.size) s.heap H locs) (hl : lv_has ls 1 [(0, .ref (ad x0))]) : W p l e (headSpec wsX7_steps ({ frames := 0, cells := 0, slots := 0, locals := 0 } : Room)).room s m args below meth c H locs 0 0 (MQ below (zQi D cy ad L K len r Mr s.heap.size) args s 0 0 (zA ad L s.heap.size)) (F0 m 0 ls []) := by
  obtain ⟨hx, hb, hr, hml, hown, hts, hlocks, hK, hL, hE⟩ := id C0
  have hinX7 : ∀ w ∈ wsX70, w ∈ wsX7_steps := by decide +kernel
  unfold f_X7_steps_0 at h
  refine lv_aload_n hx hb dX7_steps_0 rfl (lv_at hl 0 rfl) ?_
  refine lv_iconst (v := 0) hx hb dX7_steps_1 (by decide) ?_
  obtain ⟨g1, h⟩ := zg_some h
  refine z_put (own := RX7) (C := RX7) (T := TX7) (N := 20) (ci := 7) (v := .int (0 : Int32)) (M' := zsI M x0 19 (0 : Int32)) hx hb hts hinX7 tyX7 tyX7_ok nmX7 hown hK hL hW hS 19 (zK_of g1) rfl (by decide) (by decide) rfl (hts (.fieldLink RX7 55 "ArcLightModel" "thrown" "I") (by decide +kernel)) rfl (ty := .int) (by decide +kernel) rfl rfl (Nat.le_of_ble_eq_true rfl) dX7_steps_2 (zM_I (zK_of g1) (by decide) rfl) (fun H locs hW hS => ?_)
  obtain ⟨M2, eM3, h⟩ := zl_some h
  rw [← eM3] at hW
  refine lv_aload_n hx hb dX7_steps_5 rfl (lv_at hl 0 rfl) ?_
  refine z_get (own := RX7) (C := RX7) (T := TX7) (N := 20) (ci := 7) hx hb hts hinX7 hown hK hL hW 7 (zK_of g1) rfl (by decide) (by decide) rfl (hts (.fieldLink RX7 175 "ArcLightModel" "steps" "I") (by decide +kernel)) (v := .int (zI M2 x0 7)) rfl dX7_steps_6 ?_
  exact z_iret hx hb hr hlocks hW hS (congrArg Prod.fst (Option.some.inj h)) (congrArg Prod.snd (Option.some.inj h)) dX7_steps_9
def f_X7_steps (N : Nat) (K len : Nat → Nat) (a0 : Nat) (M : ZM) : Option (Int32 × ZM) := f_X7_steps_0 N K len a0 M
set_option maxRecDepth 100000 in
set_option maxHeartbeats 4000000 in
theorem m_X7_steps (l : Launch) {D : va_G} {cy : Nat → ClassId} {ad : Nat → Nat} {L : List Nat} {K len : Nat → Nat} (hL : zSh ad L K) (N : Nat) {a0 : Nat} {M : ZM} {r : Int32} {Mr : ZM} (h : f_X7_steps N K len a0 M = some (r, Mr)) (sz : Nat) : Met l yX7_steps wsX7_steps ({ frames := 0, cells := 0, slots := 0, locals := 0 } : Room) (zPre D cy ad L K len sz [.ref (ad a0)] M) (zQi D cy ad L K len r Mr sz) 0 0 (zA ad L sz) :=
  z_entry (Qf := fun sz => zQi D cy ad L K len r Mr sz) (av := [.ref (ad a0)]) (by decide) rfl rfl hL (Nat.le_of_ble_eq_true rfl) (fun p e s m args below meth c C0 H locs ls hW hS hl => t_X7_steps_0 C0 N h hW hS (lv_sub hl [0] rfl))
def f_X7_rollBack_129 (N : Nat) (K len : Nat → Nat) (x0 : Nat) (s0 : Int32) (s1 : Int32) (s2 : Nat) (M : ZM) : Option (Int32 × ZM) :=
zg (K s2 == 8) (
zl (zsI M s2 7 (s1 - s0)) fun M2 => (
(f_X7_changed N K len x0 M2).bind fun M6 => (
zg (K x0 == 8) (
some ((zI M6 x0 8), M6)))))
set_option maxRecDepth 100000 in
set_option maxHeartbeats 4000000 in
theorem t_X7_rollBack_129 {p : Program} {l : Launch} {e : Env} {s : State} {m : MethodId} {args : Array Value} {below : List Frame} {meth : Method} {c : Code} {D : va_G} {cy : Nat → ClassId} {ad : Nat → Nat} {L : List Nat} {K len : Nat → Nat} (C0 : zCx p s m c meth args cX7_rollBack 4 wsX7_rollBack RX7 (some .int) D cy ad L K) (N : Nat) {x0 : Nat} {s0 : Int32} {s1 : Int32} {s2 : Nat} {M : ZM} {r : Int32} {Mr : ZM} (h : f_X7_rollBack_129 N K len x0 s0 s1 s2 M = some (r, Mr)) {H : Heap} {locs : List Loc} {ls : Array Slot} (hW : zWd D cy ad L K len M H) (hS : va_S (zA ad L s.heap.size) s.heap H locs) (hl : lv_has ls 4 [(0, .ref (ad x0))]) : W p l e (headSpec wsX7_rollBack ({ frames := 1, cells := 0, slots := 0, locals := 21 } : Room)).room s m args below meth c H locs 0 0 (MQ below (zQi D cy ad L K len r Mr s.heap.size) args s 0 0 (zA ad L s.heap.size)) (F0 m 129 ls [.int s0, .int s1, .ref (ad s2)]) := by
  obtain ⟨hx, hb, hr, hml, hown, hts, hlocks, hK, hL, hE⟩ := id C0
  have hinX7 : ∀ w ∈ wsX70, w ∈ wsX7_rollBack := by decide +kernel
  unfold f_X7_rollBack_129 at h
  refine lv_isub hx hb dX7_rollBack_129 ?_
  obtain ⟨g1, h⟩ := zg_some h
  refine z_put (own := RX7) (C := RX7) (T := TX7) (N := 20) (ci := 7) (v := .int (s1 - s0)) (M' := zsI M s2 7 (s1 - s0)) hx hb hts hinX7 tyX7 tyX7_ok nmX7 hown hK hL hW hS 7 (zK_of g1) rfl (by decide) (by decide) rfl (hts (.fieldLink RX7 175 "ArcLightModel" "steps" "I") (by decide +kernel)) rfl (ty := .int) (by decide +kernel) rfl rfl (Nat.le_of_ble_eq_true rfl) dX7_rollBack_130 (zM_I (zK_of g1) (by decide) rfl) (fun H locs hW hS => ?_)
  obtain ⟨M2, eM3, h⟩ := zl_some h
  rw [← eM3] at hW
  refine lv_aload_n hx hb dX7_rollBack_133 rfl (lv_at hl 0 rfl) ?_
  obtain ⟨M6, e5, h⟩ := zb_some h
  obtain ⟨g7, h⟩ := zg_some h
  refine z_callv hS (va_runV (As := []) (rest := []) ⟨hx, hb, hml, hown, hts⟩ (m_X7_changed l hL N e5 H.size) (cwV 0 hts gX7_rollBack_X7_changed rfl rfl rfl (by decide +kernel) ⟨Nat.le_of_ble_eq_true rfl, Nat.le_of_ble_eq_true rfl⟩) (z_preV (q := (RX7, TX7, 20)) hK hL hE hW hS (zK_of g7) (by decide) rfl []) rfl rfl hl.1 rfl (lv_room (Nat.le_of_ble_eq_true rfl)) dX7_rollBack_134 ⟨Nat.le_of_ble_eq_true rfl, Nat.le_of_ble_eq_true rfl⟩) (fun H locs hW hS => ?_)
  refine lv_aload_n hx hb dX7_rollBack_137 rfl (lv_at hl 0 rfl) ?_
  refine z_get (own := RX7) (C := RX7) (T := TX7) (N := 20) (ci := 7) hx hb hts hinX7 hown hK hL hW 8 (zK_of g7) rfl (by decide) (by decide) rfl (hts (.fieldLink RX7 83 "ArcLightModel" "back" "I") (by decide +kernel)) (v := .int (zI M6 x0 8)) rfl dX7_rollBack_138 ?_
  exact z_iret hx hb hr hlocks hW hS (congrArg Prod.fst (Option.some.inj h)) (congrArg Prod.snd (Option.some.inj h)) dX7_rollBack_141
def f_X7_rollBack_90 (N : Nat) (K len : Nat → Nat) (kh62 : Nat → Int32 → Int32 → Int32 → ZM → Option (Int32 × ZM)) (x0 : Nat) (x1 : Int32) (x2 : Int32) (x3 : Int32) (s0 : Int64) (s1 : Int64) (s2 : Int32) (s3 : Nat) (M : ZM) : Option (Int32 × ZM) :=
zg (zok K len s3 12 s2) (
zl (zsJ M s3 s2.toNatClampNeg (s1 - s0)) fun M2 => (
zg (K x0 == 8) (
(zR M2 x0 5).bind fun b5 => (
(zR M2 x0 11).bind fun b7 => (
zg (zok K len b7 11 (((28 : Int32) * x1) + x3)) (
zg (zok K len b5 11 x3) (
zl (zsI M2 b5 x3.toNatClampNeg (zI M2 b7 (((28 : Int32) * x1) + x3).toNatClampNeg)) fun M11 => (
kh62 x0 x1 x2 (x3 + 1) M11))))))))
set_option maxRecDepth 100000 in
set_option maxHeartbeats 4000000 in
theorem t_X7_rollBack_90 {p : Program} {l : Launch} {e : Env} {s : State} {m : MethodId} {args : Array Value} {below : List Frame} {meth : Method} {c : Code} {D : va_G} {cy : Nat → ClassId} {ad : Nat → Nat} {L : List Nat} {K len : Nat → Nat} (C0 : zCx p s m c meth args cX7_rollBack 4 wsX7_rollBack RX7 (some .int) D cy ad L K) (N : Nat) {kh62 : Nat → Int32 → Int32 → Int32 → ZM → Option (Int32 × ZM)} {x0 : Nat} {x1 : Int32} {x2 : Int32} {x3 : Int32} {s0 : Int64} {s1 : Int64} {s2 : Int32} {s3 : Nat} {M : ZM} {r : Int32} {Mr : ZM} (hk62 : ∀ {y0 : Nat} {y1 : Int32} {y2 : Int32} {y3 : Int32} {M : ZM}, kh62 y0 y1 y2 y3 M = some (r, Mr) → ∀ {H : Heap} {locs : List Loc} {ls : Array Slot}, zWd D cy ad L K len M H → va_S (zA ad L s.heap.size) s.heap H locs → lv_has ls 4 [(0, .ref (ad y0)), (1, .int y1), (2, .int y2), (3, .int y3)] → W p l e (headSpec wsX7_rollBack ({ frames := 1, cells := 0, slots := 0, locals := 21 } : Room)).room s m args below meth c H locs 0 0 (MQ below (zQi D cy ad L K len r Mr s.heap.size) args s 0 0 (zA ad L s.heap.size)) (F0 m 62 ls [])) (h : f_X7_rollBack_90 N K len kh62 x0 x1 x2 x3 s0 s1 s2 s3 M = some (r, Mr)) {H : Heap} {locs : List Loc} {ls : Array Slot} (hW : zWd D cy ad L K len M H) (hS : va_S (zA ad L s.heap.size) s.heap H locs) (hl : lv_has ls 4 [(0, .ref (ad x0)), (1, .int x1), (2, .int x2), (3, .int x3)]) : W p l e (headSpec wsX7_rollBack ({ frames := 1, cells := 0, slots := 0, locals := 21 } : Room)).room s m args below meth c H locs 0 0 (MQ below (zQi D cy ad L K len r Mr s.heap.size) args s 0 0 (zA ad L s.heap.size)) (F0 m 90 ls [.long s0, .long s1, .int s2, .ref (ad s3)]) := by
  obtain ⟨hx, hb, hr, hml, hown, hts, hlocks, hK, hL, hE⟩ := id C0
  have hinX7 : ∀ w ∈ wsX70, w ∈ wsX7_rollBack := by decide +kernel
  unfold f_X7_rollBack_90 at h
  refine lv_lsub hx hb dX7_rollBack_90 ?_
  obtain ⟨g1, h⟩ := zg_some h
  refine z_last hx hb hK hL hW hS g1 dX7_rollBack_91 (fun H locs hW hS => ?_)
  obtain ⟨M2, eM3, h⟩ := zl_some h
  rw [← eM3] at hW
  refine lv_aload_n hx hb dX7_rollBack_92 rfl (lv_at hl 0 rfl) ?_
  obtain ⟨g4, h⟩ := zg_some h
  obtain ⟨b5, e6, h⟩ := zb_some h
  refine z_get (own := RX7) (C := RX7) (T := TX7) (N := 20) (ci := 7) hx hb hts hinX7 hown hK hL hW 5 (zK_of g4) rfl (by decide) (by decide) rfl (hts (.fieldLink RX7 22 "ArcLightModel" "weight" "[I") (by decide +kernel)) (v := .ref (ad b5)) (zhvR e6 rfl) dX7_rollBack_93 ?_
  refine lv_iload_n hx hb dX7_rollBack_96 rfl (lv_at hl 3 rfl) ?_
  refine lv_aload_n hx hb dX7_rollBack_97 rfl (lv_at hl 0 rfl) ?_
  obtain ⟨b7, e8, h⟩ := zb_some h
  refine z_get (own := RX7) (C := RX7) (T := TX7) (N := 20) (ci := 7) hx hb hts hinX7 hown hK hL hW 11 (zK_of g4) rfl (by decide) (by decide) rfl (hts (.fieldLink RX7 32 "ArcLightModel" "weights" "[I") (by decide +kernel)) (v := .ref (ad b7)) (zhvR e8 rfl) dX7_rollBack_98 ?_
  refine lv_bipush (v := 28) hx hb dX7_rollBack_101 (by decide) ?_
  refine lv_iload_n hx hb dX7_rollBack_103 rfl (lv_at hl 1 rfl) ?_
  refine lv_imul hx hb dX7_rollBack_104 ?_
  refine lv_iload_n hx hb dX7_rollBack_105 rfl (lv_at hl 3 rfl) ?_
  refine lv_iadd hx hb dX7_rollBack_106 ?_
  obtain ⟨g9, h⟩ := zg_some h
  refine z_iald hx hb hK hL hW g9 dX7_rollBack_107 ?_
  obtain ⟨g10, h⟩ := zg_some h
  refine z_iast hx hb hK hL hW hS g10 dX7_rollBack_108 (fun H locs hW hS => ?_)
  obtain ⟨M11, eM12, h⟩ := zl_some h
  rw [← eM12] at hW
  refine lv_iinc (k := 3) (v := (x3 + 1)) (lv' := [(3, .int (x3 + 1)), (0, .ref (ad x0)), (1, .int x1), (2, .int x2)]) hx hb dX7_rollBack_109 hl rfl (by rw [show Int32.ofInt 1 = (1 : Int32) from by decide]) (by decide) rfl (fun ls hl => ?_)
  refine lv_goto (tgt := 62) hx hb dX7_rollBack_112 (by decide) ?_
  exact hk62 h hW hS (lv_sub hl [1, 2, 3, 0] rfl)
def f_X7_rollBack_62 (N : Nat) (K len : Nat → Nat) : Nat → Nat → Int32 → Int32 → Int32 → ZM → Option (Int32 × ZM)
  | 0, _, _, _, _, _ => none
  | n + 1, x0, x1, x2, x3, M =>
    (if (28 : Int32) ≤ x3 then
    zg (K x0 == 8) (
    (if x2 = 0 then
    f_X7_rollBack_129 N K len  x0 (0 : Int32) (zI M x0 7) x0 M
    else
    f_X7_rollBack_129 N K len  x0 (1 : Int32) (zI M x0 7) x0 M))
    else
    zg (K x0 == 8) (
    (zR M x0 6).bind fun b5 => (
    zg (zok K len b5 12 x3) (
    (if x2 = 0 then
    f_X7_rollBack_90 N K len (fun y0 y1 y2 y3 M => f_X7_rollBack_62 N K len  n y0 y1 y2 y3 M) x0 x1 x2 x3 (0 : Int64) (zJ M b5 x3.toNatClampNeg) x3 b5 M
    else
    (zR M x0 5).bind fun b9 => (
    zg (zok K len b9 11 x3) (
    f_X7_rollBack_90 N K len (fun y0 y1 y2 y3 M => f_X7_rollBack_62 N K len  n y0 y1 y2 y3 M) x0 x1 x2 x3 ((zI M b9 x3.toNatClampNeg).toInt64) (zJ M b5 x3.toNatClampNeg) x3 b5 M)))))))
set_option maxRecDepth 100000 in
set_option maxHeartbeats 4000000 in
theorem t_X7_rollBack_62 {p : Program} {l : Launch} {e : Env} {s : State} {m : MethodId} {args : Array Value} {below : List Frame} {meth : Method} {c : Code} {D : va_G} {cy : Nat → ClassId} {ad : Nat → Nat} {L : List Nat} {K len : Nat → Nat} (C0 : zCx p s m c meth args cX7_rollBack 4 wsX7_rollBack RX7 (some .int) D cy ad L K) (N : Nat) {r : Int32} {Mr : ZM} : ∀ (n : Nat) {x0 : Nat} {x1 : Int32} {x2 : Int32} {x3 : Int32} {M : ZM}, f_X7_rollBack_62 N K len n x0 x1 x2 x3 M = some (r, Mr) → ∀ {H : Heap} {locs : List Loc} {ls : Array Slot}, zWd D cy ad L K len M H → va_S (zA ad L s.heap.size) s.heap H locs → lv_has ls 4 [(0, .ref (ad x0)), (1, .int x1), (2, .int x2), (3, .int x3)] → W p l e (headSpec wsX7_rollBack ({ frames := 1, cells := 0, slots := 0, locals := 21 } : Room)).room s m args below meth c H locs 0 0 (MQ below (zQi D cy ad L K len r Mr s.heap.size) args s 0 0 (zA ad L s.heap.size)) (F0 m 62 ls []) := by
  obtain ⟨hx, hb, hr, hml, hown, hts, hlocks, hK, hL, hE⟩ := id C0
  have hinX7 : ∀ w ∈ wsX70, w ∈ wsX7_rollBack := by decide +kernel
  intro n
  induction n with
  | zero =>
    intro x0 x1 x2 x3 M h
    cases (show (none : Option (Int32 × ZM)) = some (r, Mr) from h)
  | succ n ih =>
    intro x0 x1 x2 x3 M h H locs ls hW hS hl
    rw [f_X7_rollBack_62] at h
    refine lv_iload_n hx hb dX7_rollBack_62 rfl (lv_at hl 3 rfl) ?_
    refine lv_bipush (v := 28) hx hb dX7_rollBack_63 (by decide) ?_
    refine lv_icmp_ge (tgt := 115) hx hb dX7_rollBack_65 (by decide) (fun c1 => ?_) (fun c1 => ?_)
    · have h := zip c1 h
      refine lv_aload_n hx hb dX7_rollBack_115 rfl (lv_at hl 0 rfl) ?_
      refine lv_dup hx hb dX7_rollBack_116 rfl ?_
      obtain ⟨g2, h⟩ := zg_some h
      refine z_get (own := RX7) (C := RX7) (T := TX7) (N := 20) (ci := 7) hx hb hts hinX7 hown hK hL hW 7 (zK_of g2) rfl (by decide) (by decide) rfl (hts (.fieldLink RX7 175 "ArcLightModel" "steps" "I") (by decide +kernel)) (v := .int (zI M x0 7)) rfl dX7_rollBack_117 ?_
      refine lv_iload_n hx hb dX7_rollBack_120 rfl (lv_at hl 2 rfl) ?_
      refine lv_if_eq (tgt := 128) hx hb dX7_rollBack_121 (by decide) (fun c3 => ?_) (fun c3 => ?_)
      · have h := zip c3 h
        refine lv_iconst (v := 0) hx hb dX7_rollBack_128 (by decide) ?_
        exact t_X7_rollBack_129 C0 N  h hW hS (lv_sub hl [0] rfl)
      · have h := zin c3 h
        refine lv_iconst (v := 1) hx hb dX7_rollBack_124 (by decide) ?_
        refine lv_goto (tgt := 129) hx hb dX7_rollBack_125 (by decide) ?_
        exact t_X7_rollBack_129 C0 N  h hW hS (lv_sub hl [0] rfl)
    · have h := zin c1 h
      refine lv_aload_n hx hb dX7_rollBack_68 rfl (lv_at hl 0 rfl) ?_
      obtain ⟨g4, h⟩ := zg_some h
      obtain ⟨b5, e6, h⟩ := zb_some h
      refine z_get (own := RX7) (C := RX7) (T := TX7) (N := 20) (ci := 7) hx hb hts hinX7 hown hK hL hW 6 (zK_of g4) rfl (by decide) (by decide) rfl (hts (.fieldLink RX7 25 "ArcLightModel" "sum" "[J") (by decide +kernel)) (v := .ref (ad b5)) (zhvR e6 rfl) dX7_rollBack_69 ?_
      refine lv_iload_n hx hb dX7_rollBack_72 rfl (lv_at hl 3 rfl) ?_
      refine lv_dup2_11 hx hb dX7_rollBack_73 rfl rfl ?_
      obtain ⟨g7, h⟩ := zg_some h
      refine z_lald hx hb hK hL hW g7 dX7_rollBack_74 ?_
      refine lv_iload_n hx hb dX7_rollBack_75 rfl (lv_at hl 2 rfl) ?_
      refine lv_if_eq (tgt := 89) hx hb dX7_rollBack_76 (by decide) (fun c8 => ?_) (fun c8 => ?_)
      · have h := zip c8 h
        refine lv_lconst (v := 0) hx hb dX7_rollBack_89 (by decide) ?_
        exact t_X7_rollBack_90 C0 N (fun h _ _ _ hW hS hl => ih h hW hS hl) h hW hS (lv_sub hl [0, 1, 2, 3] rfl)
      · have h := zin c8 h
        refine lv_aload_n hx hb dX7_rollBack_79 rfl (lv_at hl 0 rfl) ?_
        obtain ⟨b9, e10, h⟩ := zb_some h
        refine z_get (own := RX7) (C := RX7) (T := TX7) (N := 20) (ci := 7) hx hb hts hinX7 hown hK hL hW 5 (zK_of g4) rfl (by decide) (by decide) rfl (hts (.fieldLink RX7 22 "ArcLightModel" "weight" "[I") (by decide +kernel)) (v := .ref (ad b9)) (zhvR e10 rfl) dX7_rollBack_80 ?_
        refine lv_iload_n hx hb dX7_rollBack_83 rfl (lv_at hl 3 rfl) ?_
        obtain ⟨g11, h⟩ := zg_some h
        refine z_iald hx hb hK hL hW g11 dX7_rollBack_84 ?_
        refine lv_i2l hx hb dX7_rollBack_85 rfl ?_
        refine lv_goto (tgt := 90) hx hb dX7_rollBack_86 (by decide) ?_
        exact t_X7_rollBack_90 C0 N (fun h _ _ _ hW hS hl => ih h hW hS hl) h hW hS (lv_sub hl [0, 1, 2, 3] rfl)
def f_X7_rollBack_59 (N : Nat) (K len : Nat → Nat) (x0 : Nat) (x1 : Int32) (s0 : Int32) (M : ZM) : Option (Int32 × ZM) :=
f_X7_rollBack_62 N K len  N x0 x1 s0 (0 : Int32) M
set_option maxRecDepth 100000 in
set_option maxHeartbeats 4000000 in
theorem t_X7_rollBack_59 {p : Program} {l : Launch} {e : Env} {s : State} {m : MethodId} {args : Array Value} {below : List Frame} {meth : Method} {c : Code} {D : va_G} {cy : Nat → ClassId} {ad : Nat → Nat} {L : List Nat} {K len : Nat → Nat} (C0 : zCx p s m c meth args cX7_rollBack 4 wsX7_rollBack RX7 (some .int) D cy ad L K) (N : Nat) {x0 : Nat} {x1 : Int32} {s0 : Int32} {M : ZM} {r : Int32} {Mr : ZM} (h : f_X7_rollBack_59 N K len x0 x1 s0 M = some (r, Mr)) {H : Heap} {locs : List Loc} {ls : Array Slot} (hW : zWd D cy ad L K len M H) (hS : va_S (zA ad L s.heap.size) s.heap H locs) (hl : lv_has ls 4 [(0, .ref (ad x0)), (1, .int x1)]) : W p l e (headSpec wsX7_rollBack ({ frames := 1, cells := 0, slots := 0, locals := 21 } : Room)).room s m args below meth c H locs 0 0 (MQ below (zQi D cy ad L K len r Mr s.heap.size) args s 0 0 (zA ad L s.heap.size)) (F0 m 59 ls [.int s0]) := by
  obtain ⟨hx, hb, hr, hml, hown, hts, hlocks, hK, hL, hE⟩ := id C0
  unfold f_X7_rollBack_59 at h
  refine lv_istore_n (lv' := [(2, .int s0), (0, .ref (ad x0)), (1, .int x1)]) hx hb dX7_rollBack_59 rfl hl (by decide) rfl (fun ls hl => ?_)
  refine lv_iconst (v := 0) hx hb dX7_rollBack_60 (by decide) ?_
  refine lv_istore_n (lv' := [(3, .int (0 : Int32)), (2, .int s0), (0, .ref (ad x0)), (1, .int x1)]) hx hb dX7_rollBack_61 rfl hl (by decide) rfl (fun ls hl => ?_)
  exact t_X7_rollBack_62 C0 N  N h hW hS (lv_sub hl [2, 3, 1, 0] rfl)
def f_X7_rollBack_13 (N : Nat) (K len : Nat → Nat) (x0 : Nat) (s0 : Int32) (s1 : Nat) (M : ZM) : Option (Int32 × ZM) :=
zbp (f_X7_asks N K len s1 s0 M) fun q1 M3 => (
zg (K s1 == 8) (
(if q1 = 0 then
some ((0 : Int32), M3)
else
zg (K x0 == 8) (
zl (zsI M3 x0 8 ((zI M3 x0 8) - (1 : Int32))) fun M7 => (
(zR M7 x0 10).bind fun b9 => (
zg (zok K len b9 11 (((zI M7 x0 9) + (zI M7 x0 8)) - ((zI M7 x0 9) + (zI M7 x0 8)) / (20 : Int32) * (20 : Int32))) (
(if (zI M7 b9 (((zI M7 x0 9) + (zI M7 x0 8)) - ((zI M7 x0 9) + (zI M7 x0 8)) / (20 : Int32) * (20 : Int32)).toNatClampNeg) = (-1 : Int32) then
f_X7_rollBack_59 N K len  x0 (((zI M7 x0 9) + (zI M7 x0 8)) - ((zI M7 x0 9) + (zI M7 x0 8)) / (20 : Int32) * (20 : Int32)) (1 : Int32) M7
else
f_X7_rollBack_59 N K len  x0 (((zI M7 x0 9) + (zI M7 x0 8)) - ((zI M7 x0 9) + (zI M7 x0 8)) / (20 : Int32) * (20 : Int32)) (0 : Int32) M7))))))))
set_option maxRecDepth 100000 in
set_option maxHeartbeats 4000000 in
theorem t_X7_rollBack_13 {p : Program} {l : Launch} {e : Env} {s : State} {m : MethodId} {args : Array Value} {below : List Frame} {meth : Method} {c : Code} {D : va_G} {cy : Nat → ClassId} {ad : Nat → Nat} {L : List Nat} {K len : Nat → Nat} (C0 : zCx p s m c meth args cX7_rollBack 4 wsX7_rollBack RX7 (some .int) D cy ad L K) (N : Nat) {x0 : Nat} {s0 : Int32} {s1 : Nat} {M : ZM} {r : Int32} {Mr : ZM} (h : f_X7_rollBack_13 N K len x0 s0 s1 M = some (r, Mr)) {H : Heap} {locs : List Loc} {ls : Array Slot} (hW : zWd D cy ad L K len M H) (hS : va_S (zA ad L s.heap.size) s.heap H locs) (hl : lv_has ls 4 [(0, .ref (ad x0))]) : W p l e (headSpec wsX7_rollBack ({ frames := 1, cells := 0, slots := 0, locals := 21 } : Room)).room s m args below meth c H locs 0 0 (MQ below (zQi D cy ad L K len r Mr s.heap.size) args s 0 0 (zA ad L s.heap.size)) (F0 m 13 ls [.int s0, .ref (ad s1)]) := by
  obtain ⟨hx, hb, hr, hml, hown, hts, hlocks, hK, hL, hE⟩ := id C0
  have hinX7 : ∀ w ∈ wsX70, w ∈ wsX7_rollBack := by decide +kernel
  unfold f_X7_rollBack_13 at h
  obtain ⟨q1, M3, e2, h⟩ := zbp_some h
  obtain ⟨g4, h⟩ := zg_some h
  refine z_calli hS (va_runV (As := [.int s0]) (rest := []) ⟨hx, hb, hml, hown, hts⟩ (m_X7_asks l hL N e2 H.size) (cwV 1 hts gX7_rollBack_X7_asks rfl rfl rfl (by decide +kernel) ⟨Nat.le_of_ble_eq_true rfl, Nat.le_of_ble_eq_true rfl⟩) (z_preV (q := (RX7, TX7, 20)) hK hL hE hW hS (zK_of g4) (by decide) rfl [.int s0]) rfl rfl hl.1 rfl (lv_room (Nat.le_of_ble_eq_true rfl)) dX7_rollBack_13 ⟨Nat.le_of_ble_eq_true rfl, Nat.le_of_ble_eq_true rfl⟩) (fun H locs hW hS => ?_)
  refine lv_if_ne (tgt := 21) hx hb dX7_rollBack_16 (by decide) (fun c5 => ?_) (fun c5 => ?_)
  · have h := zin c5 h
    refine lv_aload_n hx hb dX7_rollBack_21 rfl (lv_at hl 0 rfl) ?_
    refine lv_dup hx hb dX7_rollBack_22 rfl ?_
    obtain ⟨g6, h⟩ := zg_some h
    refine z_get (own := RX7) (C := RX7) (T := TX7) (N := 20) (ci := 7) hx hb hts hinX7 hown hK hL hW 8 (zK_of g6) rfl (by decide) (by decide) rfl (hts (.fieldLink RX7 83 "ArcLightModel" "back" "I") (by decide +kernel)) (v := .int (zI M3 x0 8)) rfl dX7_rollBack_23 ?_
    refine lv_iconst (v := 1) hx hb dX7_rollBack_26 (by decide) ?_
    refine lv_isub hx hb dX7_rollBack_27 ?_
    refine z_put (own := RX7) (C := RX7) (T := TX7) (N := 20) (ci := 7) (v := .int ((zI M3 x0 8) - (1 : Int32))) (M' := zsI M3 x0 8 ((zI M3 x0 8) - (1 : Int32))) hx hb hts hinX7 tyX7 tyX7_ok nmX7 hown hK hL hW hS 8 (zK_of g6) rfl (by decide) (by decide) rfl (hts (.fieldLink RX7 83 "ArcLightModel" "back" "I") (by decide +kernel)) rfl (ty := .int) (by decide +kernel) rfl rfl (Nat.le_of_ble_eq_true rfl) dX7_rollBack_28 (zM_I (zK_of g6) (by decide) rfl) (fun H locs hW hS => ?_)
    obtain ⟨M7, eM8, h⟩ := zl_some h
    rw [← eM8] at hW
    refine lv_aload_n hx hb dX7_rollBack_31 rfl (lv_at hl 0 rfl) ?_
    refine z_get (own := RX7) (C := RX7) (T := TX7) (N := 20) (ci := 7) hx hb hts hinX7 hown hK hL hW 9 (zK_of g6) rfl (by decide) (by decide) rfl (hts (.fieldLink RX7 80 "ArcLightModel" "first" "I") (by decide +kernel)) (v := .int (zI M7 x0 9)) rfl dX7_rollBack_32 ?_
    refine lv_aload_n hx hb dX7_rollBack_35 rfl (lv_at hl 0 rfl) ?_
    refine z_get (own := RX7) (C := RX7) (T := TX7) (N := 20) (ci := 7) hx hb hts hinX7 hown hK hL hW 8 (zK_of g6) rfl (by decide) (by decide) rfl (hts (.fieldLink RX7 83 "ArcLightModel" "back" "I") (by decide +kernel)) (v := .int (zI M7 x0 8)) rfl dX7_rollBack_36 ?_
    refine lv_iadd hx hb dX7_rollBack_39 ?_
    refine lv_bipush (v := 20) hx hb dX7_rollBack_40 (by decide) ?_
    refine lv_irem hx hb dX7_rollBack_42 (by decide) ?_
    refine lv_istore_n (lv' := [(1, .int (((zI M7 x0 9) + (zI M7 x0 8)) - ((zI M7 x0 9) + (zI M7 x0 8)) / (20 : Int32) * (20 : Int32))), (0, .ref (ad x0))]) hx hb dX7_rollBack_43 rfl hl (by decide) rfl (fun ls hl => ?_)
    refine lv_aload_n hx hb dX7_rollBack_44 rfl (lv_at hl 1 rfl) ?_
    obtain ⟨b9, e10, h⟩ := zb_some h
    refine z_get (own := RX7) (C := RX7) (T := TX7) (N := 20) (ci := 7) hx hb hts hinX7 hown hK hL hW 10 (zK_of g6) rfl (by decide) (by decide) rfl (hts (.fieldLink RX7 29 "ArcLightModel" "was" "[I") (by decide +kernel)) (v := .ref (ad b9)) (zhvR e10 rfl) dX7_rollBack_45 ?_
    refine lv_iload_n hx hb dX7_rollBack_48 rfl (lv_at hl 0 rfl) ?_
    obtain ⟨g11, h⟩ := zg_some h
    refine z_iald hx hb hK hL hW g11 dX7_rollBack_49 ?_
    refine lv_iconst (v := -1) hx hb dX7_rollBack_50 (by decide) ?_
    refine lv_icmp_ne (tgt := 58) hx hb dX7_rollBack_51 (by decide) (fun c12 => ?_) (fun c12 => ?_)
    · have h := zin c12 h
      refine lv_iconst (v := 0) hx hb dX7_rollBack_58 (by decide) ?_
      exact t_X7_rollBack_59 C0 N  h hW hS (lv_sub hl [1, 0] rfl)
    · have h := zip c12 h
      refine lv_iconst (v := 1) hx hb dX7_rollBack_54 (by decide) ?_
      refine lv_goto (tgt := 59) hx hb dX7_rollBack_55 (by decide) ?_
      exact t_X7_rollBack_59 C0 N  h hW hS (lv_sub hl [1, 0] rfl)
  · have h := zip c5 h
    refine lv_iconst (v := 0) hx hb dX7_rollBack_19 (by decide) ?_
    exact z_iret hx hb hr hlocks hW hS (congrArg Prod.fst (Option.some.inj h)) (congrArg Prod.snd (Option.some.inj h)) dX7_rollBack_20
def f_X7_rollBack_0 (N : Nat) (K len : Nat → Nat) (x0 : Nat) (M : ZM) : Option (Int32 × ZM) :=
zg (K x0 == 8) (
(if (zI M x0 8) ≤ 0 then
f_X7_rollBack_13 N K len  x0 (0 : Int32) x0 M
else
f_X7_rollBack_13 N K len  x0 (1 : Int32) x0 M))
set_option maxRecDepth 100000 in
set_option maxHeartbeats 4000000 in
theorem t_X7_rollBack_0 {p : Program} {l : Launch} {e : Env} {s : State} {m : MethodId} {args : Array Value} {below : List Frame} {meth : Method} {c : Code} {D : va_G} {cy : Nat → ClassId} {ad : Nat → Nat} {L : List Nat} {K len : Nat → Nat} (C0 : zCx p s m c meth args cX7_rollBack 4 wsX7_rollBack RX7 (some .int) D cy ad L K) (N : Nat) {x0 : Nat} {M : ZM} {r : Int32} {Mr : ZM} (h : f_X7_rollBack_0 N K len x0 M = some (r, Mr)) {H : Heap} {locs : List Loc} {ls : Array Slot} (hW : zWd D cy ad L K len M H) (hS : va_S (zA ad L s.heap.size) s.heap H locs) (hl : lv_has ls 4 [(0, .ref (ad x0))]) : W p l e (headSpec wsX7_rollBack ({ frames := 1, cells := 0, slots := 0, locals := 21 } : Room)).room s m args below meth c H locs 0 0 (MQ below (zQi D cy ad L K len r Mr s.heap.size) args s 0 0 (zA ad L s.heap.size)) (F0 m 0 ls []) := by
  obtain ⟨hx, hb, hr, hml, hown, hts, hlocks, hK, hL, hE⟩ := id C0
  have hinX7 : ∀ w ∈ wsX70, w ∈ wsX7_rollBack := by decide +kernel
  unfold f_X7_rollBack_0 at h
  refine lv_aload_n hx hb dX7_rollBack_0 rfl (lv_at hl 0 rfl) ?_
  refine lv_aload_n hx hb dX7_rollBack_1 rfl (lv_at hl 0 rfl) ?_
  obtain ⟨g1, h⟩ := zg_some h
  refine z_get (own := RX7) (C := RX7) (T := TX7) (N := 20) (ci := 7) hx hb hts hinX7 hown hK hL hW 8 (zK_of g1) rfl (by decide) (by decide) rfl (hts (.fieldLink RX7 83 "ArcLightModel" "back" "I") (by decide +kernel)) (v := .int (zI M x0 8)) rfl dX7_rollBack_2 ?_
  refine lv_if_le (tgt := 12) hx hb dX7_rollBack_5 (by decide) (fun c2 => ?_) (fun c2 => ?_)
  · have h := zip c2 h
    refine lv_iconst (v := 0) hx hb dX7_rollBack_12 (by decide) ?_
    exact t_X7_rollBack_13 C0 N  h hW hS (lv_sub hl [0] rfl)
  · have h := zin c2 h
    refine lv_iconst (v := 1) hx hb dX7_rollBack_8 (by decide) ?_
    refine lv_goto (tgt := 13) hx hb dX7_rollBack_9 (by decide) ?_
    exact t_X7_rollBack_13 C0 N  h hW hS (lv_sub hl [0] rfl)
def f_X7_rollBack (N : Nat) (K len : Nat → Nat) (a0 : Nat) (M : ZM) : Option (Int32 × ZM) := f_X7_rollBack_0 N K len a0 M
set_option maxRecDepth 100000 in
set_option maxHeartbeats 4000000 in
theorem m_X7_rollBack (l : Launch) {D : va_G} {cy : Nat → ClassId} {ad : Nat → Nat} {L : List Nat} {K len : Nat → Nat} (hL : zSh ad L K) (N : Nat) {a0 : Nat} {M : ZM} {r : Int32} {Mr : ZM} (h : f_X7_rollBack N K len a0 M = some (r, Mr)) (sz : Nat) : Met l yX7_rollBack wsX7_rollBack ({ frames := 1, cells := 0, slots := 0, locals := 21 } : Room) (zPre D cy ad L K len sz [.ref (ad a0)] M) (zQi D cy ad L K len r Mr sz) 0 0 (zA ad L sz) :=
  z_entry (Qf := fun sz => zQi D cy ad L K len r Mr sz) (av := [.ref (ad a0)]) (by decide) rfl rfl hL (Nat.le_of_ble_eq_true rfl) (fun p e s m args below meth c C0 H locs ls hW hS hl => t_X7_rollBack_0 C0 N h hW hS (lv_sub hl [0] rfl))

/-! Walks laid by program (wip/whole/gen): X3_fillOpen, X3_fillWhole, X3_greatest -/
def f_X3_fillOpen_23 (N : Nat) (K len : Nat → Nat) : Nat → Nat → Nat → Int32 → Int32 → Int64 → Int32 → ZM → Option (ZM)
  | 0, _, _, _, _, _, _, _ => none
  | n + 1, x0, x1, x2, x3, x4, x6, M =>
    (if x3 ≤ x6 then
    zg (K x0 == 4) (
    (zR M x0 2).bind fun b3 => (
    zg (zok K len b3 16 x2) (
    (zR M b3 x2.toNatClampNeg).bind fun b6 => (
    (f_X0_get N K len x1 x2 x3 M).bind fun q8 => (
    zg (K x1 == 1) (
    (f_X3_join N x4 q8).bind fun q11 => (
    zg (zok K len b6 12 x3) (
    zl (zsJ M b6 x3.toNatClampNeg q11) fun M14 => (
    (zR M14 x0 3).bind fun b16 => (
    zg (zok K len b16 16 x2) (
    (zR M14 b16 x2.toNatClampNeg).bind fun b19 => (
    (f_X0_get N K len x1 x3 x2 M14).bind fun q21 => (
    (f_X3_join N x4 q21).bind fun q23 => (
    zg (zok K len b19 12 x3) (
    zl (zsJ M14 b19 x3.toNatClampNeg q23) fun M26 => (
    some M26))))))))))))))))
    else
    zg (K x0 == 4) (
    (zR M x0 0).bind fun b29 => (
    zg (zok K len b29 16 x2) (
    (zR M b29 x2.toNatClampNeg).bind fun b32 => (
    zg (zok K len b32 12 x6) (
    (zR M x0 1).bind fun b35 => (
    zg (zok K len b35 16 (x6 + (1 : Int32))) (
    (zR M b35 (x6 + (1 : Int32)).toNatClampNeg).bind fun b38 => (
    zg (zok K len b38 12 x3) (
    (f_X3_join N (zJ M b32 x6.toNatClampNeg) (zJ M b38 x3.toNatClampNeg)).bind fun q41 => (
    f_X3_fillOpen_23 N K len  n x0 x1 x2 x3 (if q41 < x4 then x4 else q41) (x6 + 1) M)))))))))))
set_option maxRecDepth 100000 in
set_option maxHeartbeats 4000000 in
theorem t_X3_fillOpen_23 {p : Program} {l : Launch} {e : Env} {s : State} {m : MethodId} {args : Array Value} {below : List Frame} {meth : Method} {c : Code} {D : va_G} {cy : Nat → ClassId} {ad : Nat → Nat} {L : List Nat} {K len : Nat → Nat} (C0 : zCx p s m c meth args cX3_fillOpen 7 wsX3_fillOpen RX3 none D cy ad L K) (N : Nat) {Mr : ZM} : ∀ (n : Nat) {x0 : Nat} {x1 : Nat} {x2 : Int32} {x3 : Int32} {x4 : Int64} {x6 : Int32} {M : ZM}, f_X3_fillOpen_23 N K len n x0 x1 x2 x3 x4 x6 M = some Mr → ∀ {H : Heap} {locs : List Loc} {ls : Array Slot}, zWd D cy ad L K len M H → va_S (zA ad L s.heap.size) s.heap H locs → lv_has ls 7 [(0, .ref (ad x0)), (1, .ref (ad x1)), (2, .int x2), (3, .int x3), (4, .long x4), (6, .int x6)] → W p l e (headSpec wsX3_fillOpen ({ frames := 2, cells := 0, slots := 0, locals := 42 } : Room)).room s m args below meth c H locs 0 0 (MQ below (zQv D cy ad L K len Mr s.heap.size) args s 0 0 (zA ad L s.heap.size)) (F0 m 23 ls []) := by
  obtain ⟨hx, hb, hr, hml, hown, hts, hlocks, hK, hL, hE⟩ := id C0
  have hinX3 : ∀ w ∈ wsX30, w ∈ wsX3_fillOpen := by decide +kernel
  intro n
  induction n with
  | zero =>
    intro x0 x1 x2 x3 x4 x6 M h
    cases (show (none : Option (ZM)) = some Mr from h)
  | succ n ih =>
    intro x0 x1 x2 x3 x4 x6 M h H locs ls hW hS hl
    rw [f_X3_fillOpen_23] at h
    refine lv_iload hx hb dX3_fillOpen_23 (lv_at hl 5 rfl) ?_
    refine lv_iload_n hx hb dX3_fillOpen_25 rfl (lv_at hl 3 rfl) ?_
    refine lv_icmp_ge (tgt := 65) hx hb dX3_fillOpen_26 (by decide) (fun c1 => ?_) (fun c1 => ?_)
    · have h := zip c1 h
      refine lv_aload_n hx hb dX3_fillOpen_65 rfl (lv_at hl 0 rfl) ?_
      obtain ⟨g2, h⟩ := zg_some h
      obtain ⟨b3, e4, h⟩ := zb_some h
      refine z_get (own := RX3) (C := RX3) (T := TX3) (N := 4) (ci := 3) hx hb hts hinX3 hown hK hL hW 2 (zK_of g2) rfl (by decide) (by decide) rfl (hts (.fieldLink RX3 19 "ArcLight$Spans" "openFromLeft" "[[J") (by decide +kernel)) (v := .ref (ad b3)) (zhvR e4 rfl) dX3_fillOpen_66 ?_
      refine lv_iload_n hx hb dX3_fillOpen_69 rfl (lv_at hl 2 rfl) ?_
      obtain ⟨g5, h⟩ := zg_some h
      obtain ⟨b6, e7, h⟩ := zb_some h
      refine z_aaldS hx hb hK hL hW 16 g5 (by decide) e7 dX3_fillOpen_70 ?_
      refine lv_iload_n hx hb dX3_fillOpen_71 rfl (lv_at hl 3 rfl) ?_
      refine lv_lload hx hb dX3_fillOpen_72 (lv_at hl 4 rfl) ?_
      refine lv_aload_n hx hb dX3_fillOpen_74 rfl (lv_at hl 1 rfl) ?_
      refine lv_iload_n hx hb dX3_fillOpen_75 rfl (lv_at hl 2 rfl) ?_
      refine lv_iload_n hx hb dX3_fillOpen_76 rfl (lv_at hl 3 rfl) ?_
      obtain ⟨q8, e9, h⟩ := zb_some h
      obtain ⟨g10, h⟩ := zg_some h
      refine z_calll hS (va_runV (As := [.int x2, .int x3]) (rest := [.long x4, .int x3, .ref (ad b6)]) ⟨hx, hb, hml, hown, hts⟩ (m_X0_get l hL N e9 H.size) (cwV 2 hts gX3_fillOpen_X0_get rfl rfl rfl (by decide +kernel) ⟨Nat.le_of_ble_eq_true rfl, Nat.le_of_ble_eq_true rfl⟩) (z_preV (q := (RX0, TX0, 2)) hK hL hE hW hS (zK_of g10) (by decide) rfl [.int x2, .int x3]) rfl rfl hl.1 rfl (lv_room (Nat.le_of_ble_eq_true rfl)) dX3_fillOpen_77 ⟨Nat.le_of_ble_eq_true rfl, Nat.le_of_ble_eq_true rfl⟩) (fun H locs hW hS => ?_)
      obtain ⟨q11, e12, h⟩ := zb_some h
      refine z_calll hS (va_runS (As := [.long x4, .long q8]) (rest := [.int x3, .ref (ad b6)]) ⟨hx, hb, hml, hown, hts⟩ (m_X3_join l (M := M) hL N e12 H.size) (va_cwS 2 hts gX3_fillOpen_X3_join rfl rfl rfl (by decide +kernel) ⟨Nat.le_of_ble_eq_true rfl, Nat.le_of_ble_eq_true rfl⟩) (z_preS hK hE hW hS [.long x4, .long q8]) rfl rfl hl.1 rfl (lv_room (Nat.le_of_ble_eq_true rfl)) dX3_fillOpen_80 ⟨Nat.le_of_ble_eq_true rfl, Nat.le_of_ble_eq_true rfl⟩) (fun H locs hW hS => ?_)
      obtain ⟨g13, h⟩ := zg_some h
      refine z_last hx hb hK hL hW hS g13 dX3_fillOpen_83 (fun H locs hW hS => ?_)
      obtain ⟨M14, eM15, h⟩ := zl_some h
      rw [← eM15] at hW
      refine lv_aload_n hx hb dX3_fillOpen_84 rfl (lv_at hl 0 rfl) ?_
      obtain ⟨b16, e17, h⟩ := zb_some h
      refine z_get (own := RX3) (C := RX3) (T := TX3) (N := 4) (ci := 3) hx hb hts hinX3 hown hK hL hW 3 (zK_of g2) rfl (by decide) (by decide) rfl (hts (.fieldLink RX3 22 "ArcLight$Spans" "openFromRight" "[[J") (by decide +kernel)) (v := .ref (ad b16)) (zhvR e17 rfl) dX3_fillOpen_85 ?_
      refine lv_iload_n hx hb dX3_fillOpen_88 rfl (lv_at hl 2 rfl) ?_
      obtain ⟨g18, h⟩ := zg_some h
      obtain ⟨b19, e20, h⟩ := zb_some h
      refine z_aaldS hx hb hK hL hW 16 g18 (by decide) e20 dX3_fillOpen_89 ?_
      refine lv_iload_n hx hb dX3_fillOpen_90 rfl (lv_at hl 3 rfl) ?_
      refine lv_lload hx hb dX3_fillOpen_91 (lv_at hl 4 rfl) ?_
      refine lv_aload_n hx hb dX3_fillOpen_93 rfl (lv_at hl 1 rfl) ?_
      refine lv_iload_n hx hb dX3_fillOpen_94 rfl (lv_at hl 3 rfl) ?_
      refine lv_iload_n hx hb dX3_fillOpen_95 rfl (lv_at hl 2 rfl) ?_
      obtain ⟨q21, e22, h⟩ := zb_some h
      refine z_calll hS (va_runV (As := [.int x3, .int x2]) (rest := [.long x4, .int x3, .ref (ad b19)]) ⟨hx, hb, hml, hown, hts⟩ (m_X0_get l hL N e22 H.size) (cwV 2 hts gX3_fillOpen_X0_get rfl rfl rfl (by decide +kernel) ⟨Nat.le_of_ble_eq_true rfl, Nat.le_of_ble_eq_true rfl⟩) (z_preV (q := (RX0, TX0, 2)) hK hL hE hW hS (zK_of g10) (by decide) rfl [.int x3, .int x2]) rfl rfl hl.1 rfl (lv_room (Nat.le_of_ble_eq_true rfl)) dX3_fillOpen_96 ⟨Nat.le_of_ble_eq_true rfl, Nat.le_of_ble_eq_true rfl⟩) (fun H locs hW hS => ?_)
      obtain ⟨q23, e24, h⟩ := zb_some h
      refine z_calll hS (va_runS (As := [.long x4, .long q21]) (rest := [.int x3, .ref (ad b19)]) ⟨hx, hb, hml, hown, hts⟩ (m_X3_join l (M := M14) hL N e24 H.size) (va_cwS 2 hts gX3_fillOpen_X3_join rfl rfl rfl (by decide +kernel) ⟨Nat.le_of_ble_eq_true rfl, Nat.le_of_ble_eq_true rfl⟩) (z_preS hK hE hW hS [.long x4, .long q21]) rfl rfl hl.1 rfl (lv_room (Nat.le_of_ble_eq_true rfl)) dX3_fillOpen_99 ⟨Nat.le_of_ble_eq_true rfl, Nat.le_of_ble_eq_true rfl⟩) (fun H locs hW hS => ?_)
      obtain ⟨g25, h⟩ := zg_some h
      refine z_last hx hb hK hL hW hS g25 dX3_fillOpen_102 (fun H locs hW hS => ?_)
      obtain ⟨M26, eM27, h⟩ := zl_some h
      rw [← eM27] at hW
      exact z_vret hx hb hr hlocks hW hS (Option.some.inj h) dX3_fillOpen_103
    · have h := zin c1 h
      refine lv_lload hx hb dX3_fillOpen_29 (lv_at hl 4 rfl) ?_
      refine lv_aload_n hx hb dX3_fillOpen_31 rfl (lv_at hl 0 rfl) ?_
      obtain ⟨g28, h⟩ := zg_some h
      obtain ⟨b29, e30, h⟩ := zb_some h
      refine z_get (own := RX3) (C := RX3) (T := TX3) (N := 4) (ci := 3) hx hb hts hinX3 hown hK hL hW 0 (zK_of g28) rfl (by decide) (by decide) rfl (hts (.fieldLink RX3 11 "ArcLight$Spans" "wholeFromLeft" "[[J") (by decide +kernel)) (v := .ref (ad b29)) (zhvR e30 rfl) dX3_fillOpen_32 ?_
      refine lv_iload_n hx hb dX3_fillOpen_35 rfl (lv_at hl 2 rfl) ?_
      obtain ⟨g31, h⟩ := zg_some h
      obtain ⟨b32, e33, h⟩ := zb_some h
      refine z_aaldS hx hb hK hL hW 16 g31 (by decide) e33 dX3_fillOpen_36 ?_
      refine lv_iload hx hb dX3_fillOpen_37 (lv_at hl 5 rfl) ?_
      obtain ⟨g34, h⟩ := zg_some h
      refine z_lald hx hb hK hL hW g34 dX3_fillOpen_39 ?_
      refine lv_aload_n hx hb dX3_fillOpen_40 rfl (lv_at hl 0 rfl) ?_
      obtain ⟨b35, e36, h⟩ := zb_some h
      refine z_get (own := RX3) (C := RX3) (T := TX3) (N := 4) (ci := 3) hx hb hts hinX3 hown hK hL hW 1 (zK_of g28) rfl (by decide) (by decide) rfl (hts (.fieldLink RX3 16 "ArcLight$Spans" "wholeFromRight" "[[J") (by decide +kernel)) (v := .ref (ad b35)) (zhvR e36 rfl) dX3_fillOpen_41 ?_
      refine lv_iload hx hb dX3_fillOpen_44 (lv_at hl 5 rfl) ?_
      refine lv_iconst (v := 1) hx hb dX3_fillOpen_46 (by decide) ?_
      refine lv_iadd hx hb dX3_fillOpen_47 ?_
      obtain ⟨g37, h⟩ := zg_some h
      obtain ⟨b38, e39, h⟩ := zb_some h
      refine z_aaldS hx hb hK hL hW 16 g37 (by decide) e39 dX3_fillOpen_48 ?_
      refine lv_iload_n hx hb dX3_fillOpen_49 rfl (lv_at hl 3 rfl) ?_
      obtain ⟨g40, h⟩ := zg_some h
      refine z_lald hx hb hK hL hW g40 dX3_fillOpen_50 ?_
      obtain ⟨q41, e42, h⟩ := zb_some h
      refine z_calll hS (va_runS (As := [.long (zJ M b32 x6.toNatClampNeg), .long (zJ M b38 x3.toNatClampNeg)]) (rest := [.long x4]) ⟨hx, hb, hml, hown, hts⟩ (m_X3_join l (M := M) hL N e42 H.size) (va_cwS 2 hts gX3_fillOpen_X3_join rfl rfl rfl (by decide +kernel) ⟨Nat.le_of_ble_eq_true rfl, Nat.le_of_ble_eq_true rfl⟩) (z_preS hK hE hW hS [.long (zJ M b32 x6.toNatClampNeg), .long (zJ M b38 x3.toNatClampNeg)]) rfl rfl hl.1 rfl (lv_room (Nat.le_of_ble_eq_true rfl)) dX3_fillOpen_51 ⟨Nat.le_of_ble_eq_true rfl, Nat.le_of_ble_eq_true rfl⟩) (fun H locs hW hS => ?_)
      refine va_mmax_long (own := RX3) hx hb (hml.trans hl.1.symm) hown (hts (.methodLink RX3 55 Lib.MathLoose.max_long.x) (by decide +kernel)) (hts (.static Lib.MathLoose.max_long.x) (by decide +kernel)) (hts (.initialized "java/lang/Math") (by decide +kernel)) (hts (.code Lib.MathLoose.max_long.x Lib.MathLoose.max_long.code 4 (some .long)) (by decide +kernel)) (Nat.le_of_ble_eq_true rfl) (Nat.le_of_ble_eq_true rfl) (Nat.zero_le _) (Nat.zero_le _) dX3_fillOpen_54 ?_
      refine lv_lstore (lv' := [(4, .long (if q41 < x4 then x4 else q41)), (0, .ref (ad x0)), (1, .ref (ad x1)), (2, .int x2), (3, .int x3), (6, .int x6)]) hx hb dX3_fillOpen_57 hl (by decide) rfl (fun ls hl => ?_)
      refine lv_iinc (k := 5) (v := (x6 + 1)) (lv' := [(6, .int (x6 + 1)), (4, .long (if q41 < x4 then x4 else q41)), (0, .ref (ad x0)), (1, .ref (ad x1)), (2, .int x2), (3, .int x3)]) hx hb dX3_fillOpen_59 hl rfl (by rw [show Int32.ofInt 1 = (1 : Int32) from by decide]) (by decide) rfl (fun ls hl => ?_)
      refine lv_goto (tgt := 23) hx hb dX3_fillOpen_62 (by decide) ?_
      exact ih h hW hS (lv_sub hl [2, 3, 4, 5, 1, 0] rfl)
def f_X3_fillOpen_0 (N : Nat) (K len : Nat → Nat) (x0 : Nat) (x1 : Nat) (x2 : Int32) (x3 : Int32) (M : ZM) : Option (ZM) :=
(f_X6_isPlace N x2).bind fun q1 => (
(if q1 = 0 then
some M
else
(f_X6_isPlace N x3).bind fun q4 => (
(if q4 = 0 then
some M
else
f_X3_fillOpen_23 N K len  N x0 x1 x2 x3 (-9223372036854775808 : Int64) x2 M))))
set_option maxRecDepth 100000 in
set_option maxHeartbeats 4000000 in
theorem t_X3_fillOpen_0 {p : Program} {l : Launch} {e : Env} {s : State} {m : MethodId} {args : Array Value} {below : List Frame} {meth : Method} {c : Code} {D : va_G} {cy : Nat → ClassId} {ad : Nat → Nat} {L : List Nat} {K len : Nat → Nat} (C0 : zCx p s m c meth args cX3_fillOpen 7 wsX3_fillOpen RX3 none D cy ad L K) (N : Nat) {x0 : Nat} {x1 : Nat} {x2 : Int32} {x3 : Int32} {M : ZM} {Mr : ZM} (h : f_X3_fillOpen_0 N K len x0 x1 x2 x3 M = some Mr) {H : Heap} {locs : List Loc} {ls : Array Slot} (hW : zWd D cy ad L K len M H) (hS : va_S (zA ad L s.heap.size) s.heap H locs) (hl : lv_has ls 7 [(0, .ref (ad x0)), (1, .ref (ad x1)), (2, .int x2), (3, .int x3)]) : W p l e (headSpec wsX3_fillOpen ({ frames := 2, cells := 0, slots := 0, locals := 42 } : Room)).room s m args below meth c H locs 0 0 (MQ below (zQv D cy ad L K len Mr s.heap.size) args s 0 0 (zA ad L s.heap.size)) (F0 m 0 ls []) := by
  obtain ⟨hx, hb, hr, hml, hown, hts, hlocks, hK, hL, hE⟩ := id C0
  unfold f_X3_fillOpen_0 at h
  refine lv_iload_n hx hb dX3_fillOpen_0 rfl (lv_at hl 2 rfl) ?_
  obtain ⟨q1, e2, h⟩ := zb_some h
  refine z_calli hS (va_runSN (As := [.int x2]) (rest := []) ⟨hx, hb, hml, hown, hts⟩ (m_X6_isPlace l (M := M) hL N e2 H.size) ⟨va_cnB (host := "ArcLight") 1 hts gX3_fillOpen_X6_isPlace_n47 rfl rfl rfl (hE.1 (.methodLinkNest RX3 47 yX6_isPlace "ArcLight") (by decide +kernel)) (hts (.initialized RX6) (by decide +kernel)) (by decide +kernel) ⟨Nat.le_of_ble_eq_true rfl, Nat.le_of_ble_eq_true rfl⟩, hts (.static yX6_isPlace) (by decide +kernel), trivial⟩ (z_preS hK hE hW hS [.int x2]) rfl rfl hl.1 rfl (lv_room (Nat.le_of_ble_eq_true rfl)) dX3_fillOpen_1 ⟨Nat.le_of_ble_eq_true rfl, Nat.le_of_ble_eq_true rfl⟩) (fun H locs hW hS => ?_)
  refine lv_if_eq (tgt := 14) hx hb dX3_fillOpen_4 (by decide) (fun c3 => ?_) (fun c3 => ?_)
  · have h := zip c3 h
    exact z_vret hx hb hr hlocks hW hS (Option.some.inj h) dX3_fillOpen_14
  · have h := zin c3 h
    refine lv_iload_n hx hb dX3_fillOpen_7 rfl (lv_at hl 3 rfl) ?_
    obtain ⟨q4, e5, h⟩ := zb_some h
    refine z_calli hS (va_runSN (As := [.int x3]) (rest := []) ⟨hx, hb, hml, hown, hts⟩ (m_X6_isPlace l (M := M) hL N e5 H.size) ⟨va_cnB (host := "ArcLight") 1 hts gX3_fillOpen_X6_isPlace_n47 rfl rfl rfl (hE.1 (.methodLinkNest RX3 47 yX6_isPlace "ArcLight") (by decide +kernel)) (hts (.initialized RX6) (by decide +kernel)) (by decide +kernel) ⟨Nat.le_of_ble_eq_true rfl, Nat.le_of_ble_eq_true rfl⟩, hts (.static yX6_isPlace) (by decide +kernel), trivial⟩ (z_preS hK hE hW hS [.int x3]) rfl rfl hl.1 rfl (lv_room (Nat.le_of_ble_eq_true rfl)) dX3_fillOpen_8 ⟨Nat.le_of_ble_eq_true rfl, Nat.le_of_ble_eq_true rfl⟩) (fun H locs hW hS => ?_)
    refine lv_if_ne (tgt := 15) hx hb dX3_fillOpen_11 (by decide) (fun c6 => ?_) (fun c6 => ?_)
    · have h := zin c6 h
      refine lv_ldc2 hx hb hown (hts (.constantLong RX3 45 (-9223372036854775808)) (by decide +kernel)) dX3_fillOpen_15 ?_
      refine lv_lstore (lv' := [(4, .long (-9223372036854775808 : Int64)), (0, .ref (ad x0)), (1, .ref (ad x1)), (2, .int x2), (3, .int x3)]) hx hb dX3_fillOpen_18 hl (by decide) rfl (fun ls hl => ?_)
      refine lv_iload_n hx hb dX3_fillOpen_20 rfl (lv_at hl 3 rfl) ?_
      refine lv_istore (lv' := [(6, .int x2), (4, .long (-9223372036854775808 : Int64)), (0, .ref (ad x0)), (1, .ref (ad x1)), (2, .int x2), (3, .int x3)]) hx hb dX3_fillOpen_21 hl (by decide) rfl (fun ls hl => ?_)
      exact t_X3_fillOpen_23 C0 N  N h hW hS (lv_sub hl [2, 3, 4, 5, 1, 0] rfl)
    · have h := zip c6 h
      exact z_vret hx hb hr hlocks hW hS (Option.some.inj h) dX3_fillOpen_14
def f_X3_fillOpen (N : Nat) (K len : Nat → Nat) (a0 : Nat) (a1 : Nat) (a2 : Int32) (a3 : Int32) (M : ZM) : Option (ZM) := f_X3_fillOpen_0 N K len a0 a1 a2 a3 M
set_option maxRecDepth 100000 in
set_option maxHeartbeats 4000000 in
theorem m_X3_fillOpen (l : Launch) {D : va_G} {cy : Nat → ClassId} {ad : Nat → Nat} {L : List Nat} {K len : Nat → Nat} (hL : zSh ad L K) (N : Nat) {a0 : Nat} {a1 : Nat} {a2 : Int32} {a3 : Int32} {M : ZM} {Mr : ZM} (h : f_X3_fillOpen N K len a0 a1 a2 a3 M = some Mr) (sz : Nat) : Met l yX3_fillOpen wsX3_fillOpen ({ frames := 2, cells := 0, slots := 0, locals := 42 } : Room) (zPre D cy ad L K len sz [.ref (ad a0), .ref (ad a1), .int a2, .int a3] M) (zQv D cy ad L K len Mr sz) 0 0 (zA ad L sz) :=
  z_entry (Qf := fun sz => zQv D cy ad L K len Mr sz) (av := [.ref (ad a0), .ref (ad a1), .int a2, .int a3]) (by decide) rfl rfl hL (Nat.le_of_ble_eq_true rfl) (fun p e s m args below meth c C0 H locs ls hW hS hl => t_X3_fillOpen_0 C0 N h hW hS (lv_sub hl [0, 1, 2, 3] rfl))
def f_X3_fillWhole_27 (N : Nat) (K len : Nat → Nat) : Nat → Nat → Int32 → Int32 → Int64 → Int64 → Int32 → ZM → Option (ZM)
  | 0, _, _, _, _, _, _, _ => none
  | n + 1, x0, x1, x2, x3, x5, x7, M =>
    (if x2 ≤ x7 then
    zg (K x0 == 4) (
    (zR M x0 0).bind fun b3 => (
    zg (zok K len b3 16 x1) (
    (zR M b3 x1.toNatClampNeg).bind fun b6 => (
    zg (zok K len b6 12 x2) (
    zl (zsJ M b6 x2.toNatClampNeg x3) fun M9 => (
    (zR M9 x0 1).bind fun b11 => (
    zg (zok K len b11 16 x1) (
    (zR M9 b11 x1.toNatClampNeg).bind fun b14 => (
    zg (zok K len b14 12 x2) (
    zl (zsJ M9 b14 x2.toNatClampNeg x5) fun M17 => (
    some M17)))))))))))
    else
    zg (K x0 == 4) (
    (zR M x0 2).bind fun b20 => (
    zg (zok K len b20 16 x1) (
    (zR M b20 x1.toNatClampNeg).bind fun b23 => (
    zg (zok K len b23 12 (x7 + (1 : Int32))) (
    (zR M x0 0).bind fun b26 => (
    zg (zok K len b26 16 (x7 + (1 : Int32))) (
    (zR M b26 (x7 + (1 : Int32)).toNatClampNeg).bind fun b29 => (
    zg (zok K len b29 12 x2) (
    (f_X3_join N (zJ M b23 (x7 + (1 : Int32)).toNatClampNeg) (zJ M b29 x2.toNatClampNeg)).bind fun q32 => (
    (zR M x0 1).bind fun b34 => (
    zg (zok K len b34 16 x1) (
    (zR M b34 x1.toNatClampNeg).bind fun b37 => (
    zg (zok K len b37 12 x7) (
    (zR M x0 3).bind fun b40 => (
    zg (zok K len b40 16 x7) (
    (zR M b40 x7.toNatClampNeg).bind fun b43 => (
    zg (zok K len b43 12 x2) (
    (f_X3_join N (zJ M b37 x7.toNatClampNeg) (zJ M b43 x2.toNatClampNeg)).bind fun q46 => (
    f_X3_fillWhole_27 N K len  n x0 x1 x2 (if q32 < x3 then x3 else q32) (if q46 < x5 then x5 else q46) (x7 + 1) M))))))))))))))))))))
set_option maxRecDepth 100000 in
set_option maxHeartbeats 4000000 in
theorem t_X3_fillWhole_27 {p : Program} {l : Launch} {e : Env} {s : State} {m : MethodId} {args : Array Value} {below : List Frame} {meth : Method} {c : Code} {D : va_G} {cy : Nat → ClassId} {ad : Nat → Nat} {L : List Nat} {K len : Nat → Nat} (C0 : zCx p s m c meth args cX3_fillWhole 8 wsX3_fillWhole RX3 none D cy ad L K) (N : Nat) {Mr : ZM} : ∀ (n : Nat) {x0 : Nat} {x1 : Int32} {x2 : Int32} {x3 : Int64} {x5 : Int64} {x7 : Int32} {M : ZM}, f_X3_fillWhole_27 N K len n x0 x1 x2 x3 x5 x7 M = some Mr → ∀ {H : Heap} {locs : List Loc} {ls : Array Slot}, zWd D cy ad L K len M H → va_S (zA ad L s.heap.size) s.heap H locs → lv_has ls 8 [(0, .ref (ad x0)), (1, .int x1), (2, .int x2), (3, .long x3), (5, .long x5), (7, .int x7)] → W p l e (headSpec wsX3_fillWhole ({ frames := 1, cells := 0, slots := 0, locals := 24 } : Room)).room s m args below meth c H locs 0 0 (MQ below (zQv D cy ad L K len Mr s.heap.size) args s 0 0 (zA ad L s.heap.size)) (F0 m 27 ls []) := by
  obtain ⟨hx, hb, hr, hml, hown, hts, hlocks, hK, hL, hE⟩ := id C0
  have hinX3 : ∀ w ∈ wsX30, w ∈ wsX3_fillWhole := by decide +kernel
  intro n
  induction n with
  | zero =>
    intro x0 x1 x2 x3 x5 x7 M h
    cases (show (none : Option (ZM)) = some Mr from h)
  | succ n ih =>
    intro x0 x1 x2 x3 x5 x7 M h H locs ls hW hS hl
    rw [f_X3_fillWhole_27] at h
    refine lv_iload hx hb dX3_fillWhole_27 (lv_at hl 5 rfl) ?_
    refine lv_iload_n hx hb dX3_fillWhole_29 rfl (lv_at hl 2 rfl) ?_
    refine lv_icmp_ge (tgt := 97) hx hb dX3_fillWhole_30 (by decide) (fun c1 => ?_) (fun c1 => ?_)
    · have h := zip c1 h
      refine lv_aload_n hx hb dX3_fillWhole_97 rfl (lv_at hl 0 rfl) ?_
      obtain ⟨g2, h⟩ := zg_some h
      obtain ⟨b3, e4, h⟩ := zb_some h
      refine z_get (own := RX3) (C := RX3) (T := TX3) (N := 4) (ci := 3) hx hb hts hinX3 hown hK hL hW 0 (zK_of g2) rfl (by decide) (by decide) rfl (hts (.fieldLink RX3 11 "ArcLight$Spans" "wholeFromLeft" "[[J") (by decide +kernel)) (v := .ref (ad b3)) (zhvR e4 rfl) dX3_fillWhole_98 ?_
      refine lv_iload_n hx hb dX3_fillWhole_101 rfl (lv_at hl 1 rfl) ?_
      obtain ⟨g5, h⟩ := zg_some h
      obtain ⟨b6, e7, h⟩ := zb_some h
      refine z_aaldS hx hb hK hL hW 16 g5 (by decide) e7 dX3_fillWhole_102 ?_
      refine lv_iload_n hx hb dX3_fillWhole_103 rfl (lv_at hl 2 rfl) ?_
      refine lv_lload_n hx hb dX3_fillWhole_104 rfl (lv_at hl 3 rfl) ?_
      obtain ⟨g8, h⟩ := zg_some h
      refine z_last hx hb hK hL hW hS g8 dX3_fillWhole_105 (fun H locs hW hS => ?_)
      obtain ⟨M9, eM10, h⟩ := zl_some h
      rw [← eM10] at hW
      refine lv_aload_n hx hb dX3_fillWhole_106 rfl (lv_at hl 0 rfl) ?_
      obtain ⟨b11, e12, h⟩ := zb_some h
      refine z_get (own := RX3) (C := RX3) (T := TX3) (N := 4) (ci := 3) hx hb hts hinX3 hown hK hL hW 1 (zK_of g2) rfl (by decide) (by decide) rfl (hts (.fieldLink RX3 16 "ArcLight$Spans" "wholeFromRight" "[[J") (by decide +kernel)) (v := .ref (ad b11)) (zhvR e12 rfl) dX3_fillWhole_107 ?_
      refine lv_iload_n hx hb dX3_fillWhole_110 rfl (lv_at hl 1 rfl) ?_
      obtain ⟨g13, h⟩ := zg_some h
      obtain ⟨b14, e15, h⟩ := zb_some h
      refine z_aaldS hx hb hK hL hW 16 g13 (by decide) e15 dX3_fillWhole_111 ?_
      refine lv_iload_n hx hb dX3_fillWhole_112 rfl (lv_at hl 2 rfl) ?_
      refine lv_lload hx hb dX3_fillWhole_113 (lv_at hl 4 rfl) ?_
      obtain ⟨g16, h⟩ := zg_some h
      refine z_last hx hb hK hL hW hS g16 dX3_fillWhole_115 (fun H locs hW hS => ?_)
      obtain ⟨M17, eM18, h⟩ := zl_some h
      rw [← eM18] at hW
      exact z_vret hx hb hr hlocks hW hS (Option.some.inj h) dX3_fillWhole_116
    · have h := zin c1 h
      refine lv_lload_n hx hb dX3_fillWhole_33 rfl (lv_at hl 3 rfl) ?_
      refine lv_aload_n hx hb dX3_fillWhole_34 rfl (lv_at hl 0 rfl) ?_
      obtain ⟨g19, h⟩ := zg_some h
      obtain ⟨b20, e21, h⟩ := zb_some h
      refine z_get (own := RX3) (C := RX3) (T := TX3) (N := 4) (ci := 3) hx hb hts hinX3 hown hK hL hW 2 (zK_of g19) rfl (by decide) (by decide) rfl (hts (.fieldLink RX3 19 "ArcLight$Spans" "openFromLeft" "[[J") (by decide +kernel)) (v := .ref (ad b20)) (zhvR e21 rfl) dX3_fillWhole_35 ?_
      refine lv_iload_n hx hb dX3_fillWhole_38 rfl (lv_at hl 1 rfl) ?_
      obtain ⟨g22, h⟩ := zg_some h
      obtain ⟨b23, e24, h⟩ := zb_some h
      refine z_aaldS hx hb hK hL hW 16 g22 (by decide) e24 dX3_fillWhole_39 ?_
      refine lv_iload hx hb dX3_fillWhole_40 (lv_at hl 5 rfl) ?_
      refine lv_iconst (v := 1) hx hb dX3_fillWhole_42 (by decide) ?_
      refine lv_iadd hx hb dX3_fillWhole_43 ?_
      obtain ⟨g25, h⟩ := zg_some h
      refine z_lald hx hb hK hL hW g25 dX3_fillWhole_44 ?_
      refine lv_aload_n hx hb dX3_fillWhole_45 rfl (lv_at hl 0 rfl) ?_
      obtain ⟨b26, e27, h⟩ := zb_some h
      refine z_get (own := RX3) (C := RX3) (T := TX3) (N := 4) (ci := 3) hx hb hts hinX3 hown hK hL hW 0 (zK_of g19) rfl (by decide) (by decide) rfl (hts (.fieldLink RX3 11 "ArcLight$Spans" "wholeFromLeft" "[[J") (by decide +kernel)) (v := .ref (ad b26)) (zhvR e27 rfl) dX3_fillWhole_46 ?_
      refine lv_iload hx hb dX3_fillWhole_49 (lv_at hl 5 rfl) ?_
      refine lv_iconst (v := 1) hx hb dX3_fillWhole_51 (by decide) ?_
      refine lv_iadd hx hb dX3_fillWhole_52 ?_
      obtain ⟨g28, h⟩ := zg_some h
      obtain ⟨b29, e30, h⟩ := zb_some h
      refine z_aaldS hx hb hK hL hW 16 g28 (by decide) e30 dX3_fillWhole_53 ?_
      refine lv_iload_n hx hb dX3_fillWhole_54 rfl (lv_at hl 2 rfl) ?_
      obtain ⟨g31, h⟩ := zg_some h
      refine z_lald hx hb hK hL hW g31 dX3_fillWhole_55 ?_
      obtain ⟨q32, e33, h⟩ := zb_some h
      refine z_calll hS (va_runS (As := [.long (zJ M b23 (x7 + (1 : Int32)).toNatClampNeg), .long (zJ M b29 x2.toNatClampNeg)]) (rest := [.long x3]) ⟨hx, hb, hml, hown, hts⟩ (m_X3_join l (M := M) hL N e33 H.size) (va_cwS 2 hts gX3_fillWhole_X3_join rfl rfl rfl (by decide +kernel) ⟨Nat.le_of_ble_eq_true rfl, Nat.le_of_ble_eq_true rfl⟩) (z_preS hK hE hW hS [.long (zJ M b23 (x7 + (1 : Int32)).toNatClampNeg), .long (zJ M b29 x2.toNatClampNeg)]) rfl rfl hl.1 rfl (lv_room (Nat.le_of_ble_eq_true rfl)) dX3_fillWhole_56 ⟨Nat.le_of_ble_eq_true rfl, Nat.le_of_ble_eq_true rfl⟩) (fun H locs hW hS => ?_)
      refine va_mmax_long (own := RX3) hx hb (hml.trans hl.1.symm) hown (hts (.methodLink RX3 55 Lib.MathLoose.max_long.x) (by decide +kernel)) (hts (.static Lib.MathLoose.max_long.x) (by decide +kernel)) (hts (.initialized "java/lang/Math") (by decide +kernel)) (hts (.code Lib.MathLoose.max_long.x Lib.MathLoose.max_long.code 4 (some .long)) (by decide +kernel)) (Nat.le_of_ble_eq_true rfl) (Nat.le_of_ble_eq_true rfl) (Nat.zero_le _) (Nat.zero_le _) dX3_fillWhole_59 ?_
      refine lv_lstore_n (lv' := [(3, .long (if q32 < x3 then x3 else q32)), (0, .ref (ad x0)), (1, .int x1), (2, .int x2), (5, .long x5), (7, .int x7)]) hx hb dX3_fillWhole_62 rfl hl (by decide) rfl (fun ls hl => ?_)
      refine lv_lload hx hb dX3_fillWhole_63 (lv_at hl 4 rfl) ?_
      refine lv_aload_n hx hb dX3_fillWhole_65 rfl (lv_at hl 1 rfl) ?_
      obtain ⟨b34, e35, h⟩ := zb_some h
      refine z_get (own := RX3) (C := RX3) (T := TX3) (N := 4) (ci := 3) hx hb hts hinX3 hown hK hL hW 1 (zK_of g19) rfl (by decide) (by decide) rfl (hts (.fieldLink RX3 16 "ArcLight$Spans" "wholeFromRight" "[[J") (by decide +kernel)) (v := .ref (ad b34)) (zhvR e35 rfl) dX3_fillWhole_66 ?_
      refine lv_iload_n hx hb dX3_fillWhole_69 rfl (lv_at hl 2 rfl) ?_
      obtain ⟨g36, h⟩ := zg_some h
      obtain ⟨b37, e38, h⟩ := zb_some h
      refine z_aaldS hx hb hK hL hW 16 g36 (by decide) e38 dX3_fillWhole_70 ?_
      refine lv_iload hx hb dX3_fillWhole_71 (lv_at hl 5 rfl) ?_
      obtain ⟨g39, h⟩ := zg_some h
      refine z_lald hx hb hK hL hW g39 dX3_fillWhole_73 ?_
      refine lv_aload_n hx hb dX3_fillWhole_74 rfl (lv_at hl 1 rfl) ?_
      obtain ⟨b40, e41, h⟩ := zb_some h
      refine z_get (own := RX3) (C := RX3) (T := TX3) (N := 4) (ci := 3) hx hb hts hinX3 hown hK hL hW 3 (zK_of g19) rfl (by decide) (by decide) rfl (hts (.fieldLink RX3 22 "ArcLight$Spans" "openFromRight" "[[J") (by decide +kernel)) (v := .ref (ad b40)) (zhvR e41 rfl) dX3_fillWhole_75 ?_
      refine lv_iload hx hb dX3_fillWhole_78 (lv_at hl 5 rfl) ?_
      obtain ⟨g42, h⟩ := zg_some h
      obtain ⟨b43, e44, h⟩ := zb_some h
      refine z_aaldS hx hb hK hL hW 16 g42 (by decide) e44 dX3_fillWhole_80 ?_
      refine lv_iload_n hx hb dX3_fillWhole_81 rfl (lv_at hl 3 rfl) ?_
      obtain ⟨g45, h⟩ := zg_some h
      refine z_lald hx hb hK hL hW g45 dX3_fillWhole_82 ?_
      obtain ⟨q46, e47, h⟩ := zb_some h
      refine z_calll hS (va_runS (As := [.long (zJ M b37 x7.toNatClampNeg), .long (zJ M b43 x2.toNatClampNeg)]) (rest := [.long x5]) ⟨hx, hb, hml, hown, hts⟩ (m_X3_join l (M := M) hL N e47 H.size) (va_cwS 2 hts gX3_fillWhole_X3_join rfl rfl rfl (by decide +kernel) ⟨Nat.le_of_ble_eq_true rfl, Nat.le_of_ble_eq_true rfl⟩) (z_preS hK hE hW hS [.long (zJ M b37 x7.toNatClampNeg), .long (zJ M b43 x2.toNatClampNeg)]) rfl rfl hl.1 rfl (lv_room (Nat.le_of_ble_eq_true rfl)) dX3_fillWhole_83 ⟨Nat.le_of_ble_eq_true rfl, Nat.le_of_ble_eq_true rfl⟩) (fun H locs hW hS => ?_)
      refine va_mmax_long (own := RX3) hx hb (hml.trans hl.1.symm) hown (hts (.methodLink RX3 55 Lib.MathLoose.max_long.x) (by decide +kernel)) (hts (.static Lib.MathLoose.max_long.x) (by decide +kernel)) (hts (.initialized "java/lang/Math") (by decide +kernel)) (hts (.code Lib.MathLoose.max_long.x Lib.MathLoose.max_long.code 4 (some .long)) (by decide +kernel)) (Nat.le_of_ble_eq_true rfl) (Nat.le_of_ble_eq_true rfl) (Nat.zero_le _) (Nat.zero_le _) dX3_fillWhole_86 ?_
      refine lv_lstore (lv' := [(5, .long (if q46 < x5 then x5 else q46)), (3, .long (if q32 < x3 then x3 else q32)), (0, .ref (ad x0)), (1, .int x1), (2, .int x2), (7, .int x7)]) hx hb dX3_fillWhole_89 hl (by decide) rfl (fun ls hl => ?_)
      refine lv_iinc (k := 5) (v := (x7 + 1)) (lv' := [(7, .int (x7 + 1)), (5, .long (if q46 < x5 then x5 else q46)), (3, .long (if q32 < x3 then x3 else q32)), (0, .ref (ad x0)), (1, .int x1), (2, .int x2)]) hx hb dX3_fillWhole_91 hl rfl (by rw [show Int32.ofInt 1 = (1 : Int32) from by decide]) (by decide) rfl (fun ls hl => ?_)
      refine lv_goto (tgt := 27) hx hb dX3_fillWhole_94 (by decide) ?_
      exact ih h hW hS (lv_sub hl [3, 4, 5, 2, 1, 0] rfl)
def f_X3_fillWhole_0 (N : Nat) (K len : Nat → Nat) (x0 : Nat) (x1 : Int32) (x2 : Int32) (M : ZM) : Option (ZM) :=
(f_X6_isPlace N x1).bind fun q1 => (
(if q1 = 0 then
some M
else
(f_X6_isPlace N x2).bind fun q4 => (
(if q4 = 0 then
some M
else
f_X3_fillWhole_27 N K len  N x0 x1 x2 (-9223372036854775808 : Int64) (-9223372036854775808 : Int64) x1 M))))
set_option maxRecDepth 100000 in
set_option maxHeartbeats 4000000 in
theorem t_X3_fillWhole_0 {p : Program} {l : Launch} {e : Env} {s : State} {m : MethodId} {args : Array Value} {below : List Frame} {meth : Method} {c : Code} {D : va_G} {cy : Nat → ClassId} {ad : Nat → Nat} {L : List Nat} {K len : Nat → Nat} (C0 : zCx p s m c meth args cX3_fillWhole 8 wsX3_fillWhole RX3 none D cy ad L K) (N : Nat) {x0 : Nat} {x1 : Int32} {x2 : Int32} {M : ZM} {Mr : ZM} (h : f_X3_fillWhole_0 N K len x0 x1 x2 M = some Mr) {H : Heap} {locs : List Loc} {ls : Array Slot} (hW : zWd D cy ad L K len M H) (hS : va_S (zA ad L s.heap.size) s.heap H locs) (hl : lv_has ls 8 [(0, .ref (ad x0)), (1, .int x1), (2, .int x2)]) : W p l e (headSpec wsX3_fillWhole ({ frames := 1, cells := 0, slots := 0, locals := 24 } : Room)).room s m args below meth c H locs 0 0 (MQ below (zQv D cy ad L K len Mr s.heap.size) args s 0 0 (zA ad L s.heap.size)) (F0 m 0 ls []) := by
  obtain ⟨hx, hb, hr, hml, hown, hts, hlocks, hK, hL, hE⟩ := id C0
  unfold f_X3_fillWhole_0 at h
  refine lv_iload_n hx hb dX3_fillWhole_0 rfl (lv_at hl 1 rfl) ?_
  obtain ⟨q1, e2, h⟩ := zb_some h
  refine z_calli hS (va_runSN (As := [.int x1]) (rest := []) ⟨hx, hb, hml, hown, hts⟩ (m_X6_isPlace l (M := M) hL N e2 H.size) ⟨va_cnB (host := "ArcLight") 1 hts gX3_fillWhole_X6_isPlace_n47 rfl rfl rfl (hE.1 (.methodLinkNest RX3 47 yX6_isPlace "ArcLight") (by decide +kernel)) (hts (.initialized RX6) (by decide +kernel)) (by decide +kernel) ⟨Nat.le_of_ble_eq_true rfl, Nat.le_of_ble_eq_true rfl⟩, hts (.static yX6_isPlace) (by decide +kernel), trivial⟩ (z_preS hK hE hW hS [.int x1]) rfl rfl hl.1 rfl (lv_room (Nat.le_of_ble_eq_true rfl)) dX3_fillWhole_1 ⟨Nat.le_of_ble_eq_true rfl, Nat.le_of_ble_eq_true rfl⟩) (fun H locs hW hS => ?_)
  refine lv_if_eq (tgt := 14) hx hb dX3_fillWhole_4 (by decide) (fun c3 => ?_) (fun c3 => ?_)
  · have h := zip c3 h
    exact z_vret hx hb hr hlocks hW hS (Option.some.inj h) dX3_fillWhole_14
  · have h := zin c3 h
    refine lv_iload_n hx hb dX3_fillWhole_7 rfl (lv_at hl 2 rfl) ?_
    obtain ⟨q4, e5, h⟩ := zb_some h
    refine z_calli hS (va_runSN (As := [.int x2]) (rest := []) ⟨hx, hb, hml, hown, hts⟩ (m_X6_isPlace l (M := M) hL N e5 H.size) ⟨va_cnB (host := "ArcLight") 1 hts gX3_fillWhole_X6_isPlace_n47 rfl rfl rfl (hE.1 (.methodLinkNest RX3 47 yX6_isPlace "ArcLight") (by decide +kernel)) (hts (.initialized RX6) (by decide +kernel)) (by decide +kernel) ⟨Nat.le_of_ble_eq_true rfl, Nat.le_of_ble_eq_true rfl⟩, hts (.static yX6_isPlace) (by decide +kernel), trivial⟩ (z_preS hK hE hW hS [.int x2]) rfl rfl hl.1 rfl (lv_room (Nat.le_of_ble_eq_true rfl)) dX3_fillWhole_8 ⟨Nat.le_of_ble_eq_true rfl, Nat.le_of_ble_eq_true rfl⟩) (fun H locs hW hS => ?_)
    refine lv_if_ne (tgt := 15) hx hb dX3_fillWhole_11 (by decide) (fun c6 => ?_) (fun c6 => ?_)
    · have h := zin c6 h
      refine lv_ldc2 hx hb hown (hts (.constantLong RX3 45 (-9223372036854775808)) (by decide +kernel)) dX3_fillWhole_15 ?_
      refine lv_lstore_n (lv' := [(3, .long (-9223372036854775808 : Int64)), (0, .ref (ad x0)), (1, .int x1), (2, .int x2)]) hx hb dX3_fillWhole_18 rfl hl (by decide) rfl (fun ls hl => ?_)
      refine lv_ldc2 hx hb hown (hts (.constantLong RX3 45 (-9223372036854775808)) (by decide +kernel)) dX3_fillWhole_19 ?_
      refine lv_lstore (lv' := [(5, .long (-9223372036854775808 : Int64)), (3, .long (-9223372036854775808 : Int64)), (0, .ref (ad x0)), (1, .int x1), (2, .int x2)]) hx hb dX3_fillWhole_22 hl (by decide) rfl (fun ls hl => ?_)
      refine lv_iload_n hx hb dX3_fillWhole_24 rfl (lv_at hl 3 rfl) ?_
      refine lv_istore (lv' := [(7, .int x1), (5, .long (-9223372036854775808 : Int64)), (3, .long (-9223372036854775808 : Int64)), (0, .ref (ad x0)), (1, .int x1), (2, .int x2)]) hx hb dX3_fillWhole_25 hl (by decide) rfl (fun ls hl => ?_)
      exact t_X3_fillWhole_27 C0 N  N h hW hS (lv_sub hl [3, 4, 5, 2, 1, 0] rfl)
    · have h := zip c6 h
      exact z_vret hx hb hr hlocks hW hS (Option.some.inj h) dX3_fillWhole_14
def f_X3_fillWhole (N : Nat) (K len : Nat → Nat) (a0 : Nat) (a1 : Int32) (a2 : Int32) (M : ZM) : Option (ZM) := f_X3_fillWhole_0 N K len a0 a1 a2 M
set_option maxRecDepth 100000 in
set_option maxHeartbeats 4000000 in
theorem m_X3_fillWhole (l : Launch) {D : va_G} {cy : Nat → ClassId} {ad : Nat → Nat} {L : List Nat} {K len : Nat → Nat} (hL : zSh ad L K) (N : Nat) {a0 : Nat} {a1 : Int32} {a2 : Int32} {M : ZM} {Mr : ZM} (h : f_X3_fillWhole N K len a0 a1 a2 M = some Mr) (sz : Nat) : Met l yX3_fillWhole wsX3_fillWhole ({ frames := 1, cells := 0, slots := 0, locals := 24 } : Room) (zPre D cy ad L K len sz [.ref (ad a0), .int a1, .int a2] M) (zQv D cy ad L K len Mr sz) 0 0 (zA ad L sz) :=
  z_entry (Qf := fun sz => zQv D cy ad L K len Mr sz) (av := [.ref (ad a0), .int a1, .int a2]) (by decide) rfl rfl hL (Nat.le_of_ble_eq_true rfl) (fun p e s m args below meth c C0 H locs ls hW hS hl => t_X3_fillWhole_0 C0 N h hW hS (lv_sub hl [0, 1, 2] rfl))
def f_X3_greatest_51 (N : Nat) (K len : Nat → Nat) (kh43 : Nat → Nat → Int32 → Int32 → ZM → Option (Int64 × ZM)) : Nat → Nat → Nat → Int32 → Int32 → Int32 → ZM → Option (Int64 × ZM)
  | 0, _, _, _, _, _, _ => none
  | n + 1, x0, x1, x2, x3, x4, M =>
    (if x2 < (x4 + x3) then
    kh43 x0 x1 x2 (x3 + 1) M
    else
    (f_X3_fillOpen N K len x0 x1 x4 (x4 + x3) M).bind fun M4 => (
    zg (K x0 == 4) (
    (f_X3_fillWhole N K len x0 x4 (x4 + x3) M4).bind fun M8 => (
    f_X3_greatest_51 N K len kh43 n x0 x1 x2 x3 (x4 + 1) M8))))
set_option maxRecDepth 100000 in
set_option maxHeartbeats 4000000 in
theorem t_X3_greatest_51 {p : Program} {l : Launch} {e : Env} {s : State} {m : MethodId} {args : Array Value} {below : List Frame} {meth : Method} {c : Code} {D : va_G} {cy : Nat → ClassId} {ad : Nat → Nat} {L : List Nat} {K len : Nat → Nat} (C0 : zCx p s m c meth args cX3_greatest 5 wsX3_greatest RX3 (some .long) D cy ad L K) (N : Nat) {kh43 : Nat → Nat → Int32 → Int32 → ZM → Option (Int64 × ZM)} {r : Int64} {Mr : ZM} (hk43 : ∀ {y0 : Nat} {y1 : Nat} {y2 : Int32} {y3 : Int32} {M : ZM}, kh43 y0 y1 y2 y3 M = some (r, Mr) → ∀ {H : Heap} {locs : List Loc} {ls : Array Slot}, zWd D cy ad L K len M H → va_S (zA ad L s.heap.size) s.heap H locs → lv_has ls 5 [(0, .ref (ad y0)), (1, .ref (ad y1)), (2, .int y2), (3, .int y3)] → W p l e (headSpec wsX3_greatest ({ frames := 3, cells := 0, slots := 0, locals := 68 } : Room)).room s m args below meth c H locs 0 0 (MQ below (zQl D cy ad L K len r Mr s.heap.size) args s 0 0 (zA ad L s.heap.size)) (F0 m 43 ls [])) : ∀ (n : Nat) {x0 : Nat} {x1 : Nat} {x2 : Int32} {x3 : Int32} {x4 : Int32} {M : ZM}, f_X3_greatest_51 N K len kh43 n x0 x1 x2 x3 x4 M = some (r, Mr) → ∀ {H : Heap} {locs : List Loc} {ls : Array Slot}, zWd D cy ad L K len M H → va_S (zA ad L s.heap.size) s.heap H locs → lv_has ls 5 [(0, .ref (ad x0)), (1, .ref (ad x1)), (2, .int x2), (3, .int x3), (4, .int x4)] → W p l e (headSpec wsX3_greatest ({ frames := 3, cells := 0, slots := 0, locals := 68 } : Room)).room s m args below meth c H locs 0 0 (MQ below (zQl D cy ad L K len r Mr s.heap.size) args s 0 0 (zA ad L s.heap.size)) (F0 m 51 ls []) := by
  obtain ⟨hx, hb, hr, hml, hown, hts, hlocks, hK, hL, hE⟩ := id C0
  intro n
  induction n with
  | zero =>
    intro x0 x1 x2 x3 x4 M h
    cases (show (none : Option (Int64 × ZM)) = some (r, Mr) from h)
  | succ n ih =>
    intro x0 x1 x2 x3 x4 M h H locs ls hW hS hl
    rw [f_X3_greatest_51] at h
    refine lv_iload hx hb dX3_greatest_51 (lv_at hl 4 rfl) ?_
    refine lv_iload_n hx hb dX3_greatest_53 rfl (lv_at hl 3 rfl) ?_
    refine lv_iadd hx hb dX3_greatest_54 ?_
    refine lv_iload_n hx hb dX3_greatest_55 rfl (lv_at hl 2 rfl) ?_
    refine lv_icmp_gt (tgt := 86) hx hb dX3_greatest_56 (by decide) (fun c1 => ?_) (fun c1 => ?_)
    · have h := zip c1 h
      refine lv_iinc (k := 3) (v := (x3 + 1)) (lv' := [(3, .int (x3 + 1)), (0, .ref (ad x0)), (1, .ref (ad x1)), (2, .int x2), (4, .int x4)]) hx hb dX3_greatest_86 hl rfl (by rw [show Int32.ofInt 1 = (1 : Int32) from by decide]) (by decide) rfl (fun ls hl => ?_)
      refine lv_goto (tgt := 43) hx hb dX3_greatest_89 (by decide) ?_
      exact hk43 h hW hS (lv_sub hl [1, 2, 3, 0] rfl)
    · have h := zin c1 h
      refine lv_aload_n hx hb dX3_greatest_59 rfl (lv_at hl 0 rfl) ?_
      refine lv_aload_n hx hb dX3_greatest_60 rfl (lv_at hl 1 rfl) ?_
      refine lv_iload hx hb dX3_greatest_61 (lv_at hl 4 rfl) ?_
      refine lv_iload hx hb dX3_greatest_63 (lv_at hl 4 rfl) ?_
      refine lv_iload_n hx hb dX3_greatest_65 rfl (lv_at hl 3 rfl) ?_
      refine lv_iadd hx hb dX3_greatest_66 ?_
      obtain ⟨M4, e3, h⟩ := zb_some h
      obtain ⟨g5, h⟩ := zg_some h
      refine z_callv hS (va_runV (As := [.ref (ad x1), .int x4, .int (x4 + x3)]) (rest := []) ⟨hx, hb, hml, hown, hts⟩ (m_X3_fillOpen l hL N e3 H.size) (cwV 3 hts gX3_greatest_X3_fillOpen rfl rfl rfl (by decide +kernel) ⟨Nat.le_of_ble_eq_true rfl, Nat.le_of_ble_eq_true rfl⟩) (z_preV (q := (RX3, TX3, 4)) hK hL hE hW hS (zK_of g5) (by decide) rfl [.ref (ad x1), .int x4, .int (x4 + x3)]) rfl rfl hl.1 rfl (lv_room (Nat.le_of_ble_eq_true rfl)) dX3_greatest_67 ⟨Nat.le_of_ble_eq_true rfl, Nat.le_of_ble_eq_true rfl⟩) (fun H locs hW hS => ?_)
      refine lv_aload_n hx hb dX3_greatest_70 rfl (lv_at hl 0 rfl) ?_
      refine lv_iload hx hb dX3_greatest_71 (lv_at hl 4 rfl) ?_
      refine lv_iload hx hb dX3_greatest_73 (lv_at hl 4 rfl) ?_
      refine lv_iload_n hx hb dX3_greatest_75 rfl (lv_at hl 3 rfl) ?_
      refine lv_iadd hx hb dX3_greatest_76 ?_
      obtain ⟨M8, e7, h⟩ := zb_some h
      refine z_callv hS (va_runV (As := [.int x4, .int (x4 + x3)]) (rest := []) ⟨hx, hb, hml, hown, hts⟩ (m_X3_fillWhole l hL N e7 H.size) (cwV 2 hts gX3_greatest_X3_fillWhole rfl rfl rfl (by decide +kernel) ⟨Nat.le_of_ble_eq_true rfl, Nat.le_of_ble_eq_true rfl⟩) (z_preV (q := (RX3, TX3, 4)) hK hL hE hW hS (zK_of g5) (by decide) rfl [.int x4, .int (x4 + x3)]) rfl rfl hl.1 rfl (lv_room (Nat.le_of_ble_eq_true rfl)) dX3_greatest_77 ⟨Nat.le_of_ble_eq_true rfl, Nat.le_of_ble_eq_true rfl⟩) (fun H locs hW hS => ?_)
      refine lv_iinc (k := 4) (v := (x4 + 1)) (lv' := [(4, .int (x4 + 1)), (0, .ref (ad x0)), (1, .ref (ad x1)), (2, .int x2), (3, .int x3)]) hx hb dX3_greatest_80 hl rfl (by rw [show Int32.ofInt 1 = (1 : Int32) from by decide]) (by decide) rfl (fun ls hl => ?_)
      refine lv_goto (tgt := 51) hx hb dX3_greatest_83 (by decide) ?_
      exact ih h hW hS (lv_sub hl [1, 2, 3, 4, 0] rfl)
def f_X3_greatest_43 (N : Nat) (K len : Nat → Nat) : Nat → Nat → Nat → Int32 → Int32 → ZM → Option (Int64 × ZM)
  | 0, _, _, _, _, _ => none
  | n + 1, x0, x1, x2, x3, M =>
    (if x2 < x3 then
    (if x2 < 0 then
    some ((-9223372036854775808 : Int64), M)
    else
    zg (K x0 == 4) (
    (zR M x0 0).bind fun b4 => (
    zg (zok K len b4 16 (0 : Int32)) (
    (zR M b4 (0 : Int32).toNatClampNeg).bind fun b7 => (
    zg (zok K len b7 12 x2) (
    some ((zJ M b7 x2.toNatClampNeg), M)))))))
    else
    f_X3_greatest_51 N K len (fun y0 y1 y2 y3 M => f_X3_greatest_43 N K len  n y0 y1 y2 y3 M) N x0 x1 x2 x3 (0 : Int32) M)
set_option maxRecDepth 100000 in
set_option maxHeartbeats 4000000 in
theorem t_X3_greatest_43 {p : Program} {l : Launch} {e : Env} {s : State} {m : MethodId} {args : Array Value} {below : List Frame} {meth : Method} {c : Code} {D : va_G} {cy : Nat → ClassId} {ad : Nat → Nat} {L : List Nat} {K len : Nat → Nat} (C0 : zCx p s m c meth args cX3_greatest 5 wsX3_greatest RX3 (some .long) D cy ad L K) (N : Nat) {r : Int64} {Mr : ZM} : ∀ (n : Nat) {x0 : Nat} {x1 : Nat} {x2 : Int32} {x3 : Int32} {M : ZM}, f_X3_greatest_43 N K len n x0 x1 x2 x3 M = some (r, Mr) → ∀ {H : Heap} {locs : List Loc} {ls : Array Slot}, zWd D cy ad L K len M H → va_S (zA ad L s.heap.size) s.heap H locs → lv_has ls 5 [(0, .ref (ad x0)), (1, .ref (ad x1)), (2, .int x2), (3, .int x3)] → W p l e (headSpec wsX3_greatest ({ frames := 3, cells := 0, slots := 0, locals := 68 } : Room)).room s m args below meth c H locs 0 0 (MQ below (zQl D cy ad L K len r Mr s.heap.size) args s 0 0 (zA ad L s.heap.size)) (F0 m 43 ls []) := by
  obtain ⟨hx, hb, hr, hml, hown, hts, hlocks, hK, hL, hE⟩ := id C0
  have hinX3 : ∀ w ∈ wsX30, w ∈ wsX3_greatest := by decide +kernel
  intro n
  induction n with
  | zero =>
    intro x0 x1 x2 x3 M h
    cases (show (none : Option (Int64 × ZM)) = some (r, Mr) from h)
  | succ n ih =>
    intro x0 x1 x2 x3 M h H locs ls hW hS hl
    rw [f_X3_greatest_43] at h
    refine lv_iload_n hx hb dX3_greatest_43 rfl (lv_at hl 3 rfl) ?_
    refine lv_iload_n hx hb dX3_greatest_44 rfl (lv_at hl 2 rfl) ?_
    refine lv_icmp_gt (tgt := 92) hx hb dX3_greatest_45 (by decide) (fun c1 => ?_) (fun c1 => ?_)
    · have h := zip c1 h
      refine lv_iload_n hx hb dX3_greatest_92 rfl (lv_at hl 2 rfl) ?_
      refine lv_if_lt (tgt := 107) hx hb dX3_greatest_93 (by decide) (fun c2 => ?_) (fun c2 => ?_)
      · have h := zip c2 h
        refine lv_ldc2 hx hb hown (hts (.constantLong RX3 45 (-9223372036854775808)) (by decide +kernel)) dX3_greatest_107 ?_
        exact z_lret hx hb hr hlocks hW hS (congrArg Prod.fst (Option.some.inj h)) (congrArg Prod.snd (Option.some.inj h)) dX3_greatest_110
      · have h := zin c2 h
        refine lv_aload_n hx hb dX3_greatest_96 rfl (lv_at hl 0 rfl) ?_
        obtain ⟨g3, h⟩ := zg_some h
        obtain ⟨b4, e5, h⟩ := zb_some h
        refine z_get (own := RX3) (C := RX3) (T := TX3) (N := 4) (ci := 3) hx hb hts hinX3 hown hK hL hW 0 (zK_of g3) rfl (by decide) (by decide) rfl (hts (.fieldLink RX3 11 "ArcLight$Spans" "wholeFromLeft" "[[J") (by decide +kernel)) (v := .ref (ad b4)) (zhvR e5 rfl) dX3_greatest_97 ?_
        refine lv_iconst (v := 0) hx hb dX3_greatest_100 (by decide) ?_
        obtain ⟨g6, h⟩ := zg_some h
        obtain ⟨b7, e8, h⟩ := zb_some h
        refine z_aaldS hx hb hK hL hW 16 g6 (by decide) e8 dX3_greatest_101 ?_
        refine lv_iload_n hx hb dX3_greatest_102 rfl (lv_at hl 2 rfl) ?_
        obtain ⟨g9, h⟩ := zg_some h
        refine z_lald hx hb hK hL hW g9 dX3_greatest_103 ?_
        refine lv_goto (tgt := 110) hx hb dX3_greatest_104 (by decide) ?_
        exact z_lret hx hb hr hlocks hW hS (congrArg Prod.fst (Option.some.inj h)) (congrArg Prod.snd (Option.some.inj h)) dX3_greatest_110
    · have h := zin c1 h
      refine lv_iconst (v := 0) hx hb dX3_greatest_48 (by decide) ?_
      refine lv_istore (lv' := [(4, .int (0 : Int32)), (0, .ref (ad x0)), (1, .ref (ad x1)), (2, .int x2), (3, .int x3)]) hx hb dX3_greatest_49 hl (by decide) rfl (fun ls hl => ?_)
      exact t_X3_greatest_51 C0 N (fun h _ _ _ hW hS hl => ih h hW hS hl) N h hW hS (lv_sub hl [1, 2, 3, 4, 0] rfl)
def f_X3_greatest_12 (N : Nat) (K len : Nat → Nat) : Nat → Nat → Nat → Int32 → Int32 → ZM → Option (Int64 × ZM)
  | 0, _, _, _, _, _ => none
  | n + 1, x0, x1, x2, x3, M =>
    (if x2 < x3 then
    f_X3_greatest_43 N K len  N x0 x1 x2 (1 : Int32) M
    else
    zg (K x0 == 4) (
    (zR M x0 0).bind fun b3 => (
    zg (zok K len b3 16 x3) (
    (zR M b3 x3.toNatClampNeg).bind fun b6 => (
    zg (zok K len b6 12 x3) (
    zl (zsJ M b6 x3.toNatClampNeg (0 : Int64)) fun M9 => (
    (zR M9 x0 1).bind fun b11 => (
    zg (zok K len b11 16 x3) (
    (zR M9 b11 x3.toNatClampNeg).bind fun b14 => (
    zg (zok K len b14 12 x3) (
    zl (zsJ M9 b14 x3.toNatClampNeg (0 : Int64)) fun M17 => (
    f_X3_greatest_12 N K len  n x0 x1 x2 (x3 + 1) M17))))))))))))
set_option maxRecDepth 100000 in
set_option maxHeartbeats 4000000 in
theorem t_X3_greatest_12 {p : Program} {l : Launch} {e : Env} {s : State} {m : MethodId} {args : Array Value} {below : List Frame} {meth : Method} {c : Code} {D : va_G} {cy : Nat → ClassId} {ad : Nat → Nat} {L : List Nat} {K len : Nat → Nat} (C0 : zCx p s m c meth args cX3_greatest 5 wsX3_greatest RX3 (some .long) D cy ad L K) (N : Nat) {r : Int64} {Mr : ZM} : ∀ (n : Nat) {x0 : Nat} {x1 : Nat} {x2 : Int32} {x3 : Int32} {M : ZM}, f_X3_greatest_12 N K len n x0 x1 x2 x3 M = some (r, Mr) → ∀ {H : Heap} {locs : List Loc} {ls : Array Slot}, zWd D cy ad L K len M H → va_S (zA ad L s.heap.size) s.heap H locs → lv_has ls 5 [(0, .ref (ad x0)), (1, .ref (ad x1)), (2, .int x2), (3, .int x3)] → W p l e (headSpec wsX3_greatest ({ frames := 3, cells := 0, slots := 0, locals := 68 } : Room)).room s m args below meth c H locs 0 0 (MQ below (zQl D cy ad L K len r Mr s.heap.size) args s 0 0 (zA ad L s.heap.size)) (F0 m 12 ls []) := by
  obtain ⟨hx, hb, hr, hml, hown, hts, hlocks, hK, hL, hE⟩ := id C0
  have hinX3 : ∀ w ∈ wsX30, w ∈ wsX3_greatest := by decide +kernel
  intro n
  induction n with
  | zero =>
    intro x0 x1 x2 x3 M h
    cases (show (none : Option (Int64 × ZM)) = some (r, Mr) from h)
  | succ n ih =>
    intro x0 x1 x2 x3 M h H locs ls hW hS hl
    rw [f_X3_greatest_12] at h
    refine lv_iload_n hx hb dX3_greatest_12 rfl (lv_at hl 3 rfl) ?_
    refine lv_iload_n hx hb dX3_greatest_13 rfl (lv_at hl 2 rfl) ?_
    refine lv_icmp_gt (tgt := 41) hx hb dX3_greatest_14 (by decide) (fun c1 => ?_) (fun c1 => ?_)
    · have h := zip c1 h
      refine lv_iconst (v := 1) hx hb dX3_greatest_41 (by decide) ?_
      refine lv_istore_n (lv' := [(3, .int (1 : Int32)), (0, .ref (ad x0)), (1, .ref (ad x1)), (2, .int x2)]) hx hb dX3_greatest_42 rfl hl (by decide) rfl (fun ls hl => ?_)
      exact t_X3_greatest_43 C0 N  N h hW hS (lv_sub hl [1, 2, 3, 0] rfl)
    · have h := zin c1 h
      refine lv_aload_n hx hb dX3_greatest_17 rfl (lv_at hl 0 rfl) ?_
      obtain ⟨g2, h⟩ := zg_some h
      obtain ⟨b3, e4, h⟩ := zb_some h
      refine z_get (own := RX3) (C := RX3) (T := TX3) (N := 4) (ci := 3) hx hb hts hinX3 hown hK hL hW 0 (zK_of g2) rfl (by decide) (by decide) rfl (hts (.fieldLink RX3 11 "ArcLight$Spans" "wholeFromLeft" "[[J") (by decide +kernel)) (v := .ref (ad b3)) (zhvR e4 rfl) dX3_greatest_18 ?_
      refine lv_iload_n hx hb dX3_greatest_21 rfl (lv_at hl 3 rfl) ?_
      obtain ⟨g5, h⟩ := zg_some h
      obtain ⟨b6, e7, h⟩ := zb_some h
      refine z_aaldS hx hb hK hL hW 16 g5 (by decide) e7 dX3_greatest_22 ?_
      refine lv_iload_n hx hb dX3_greatest_23 rfl (lv_at hl 3 rfl) ?_
      refine lv_lconst (v := 0) hx hb dX3_greatest_24 (by decide) ?_
      obtain ⟨g8, h⟩ := zg_some h
      refine z_last hx hb hK hL hW hS g8 dX3_greatest_25 (fun H locs hW hS => ?_)
      obtain ⟨M9, eM10, h⟩ := zl_some h
      rw [← eM10] at hW
      refine lv_aload_n hx hb dX3_greatest_26 rfl (lv_at hl 0 rfl) ?_
      obtain ⟨b11, e12, h⟩ := zb_some h
      refine z_get (own := RX3) (C := RX3) (T := TX3) (N := 4) (ci := 3) hx hb hts hinX3 hown hK hL hW 1 (zK_of g2) rfl (by decide) (by decide) rfl (hts (.fieldLink RX3 16 "ArcLight$Spans" "wholeFromRight" "[[J") (by decide +kernel)) (v := .ref (ad b11)) (zhvR e12 rfl) dX3_greatest_27 ?_
      refine lv_iload_n hx hb dX3_greatest_30 rfl (lv_at hl 3 rfl) ?_
      obtain ⟨g13, h⟩ := zg_some h
      obtain ⟨b14, e15, h⟩ := zb_some h
      refine z_aaldS hx hb hK hL hW 16 g13 (by decide) e15 dX3_greatest_31 ?_
      refine lv_iload_n hx hb dX3_greatest_32 rfl (lv_at hl 3 rfl) ?_
      refine lv_lconst (v := 0) hx hb dX3_greatest_33 (by decide) ?_
      obtain ⟨g16, h⟩ := zg_some h
      refine z_last hx hb hK hL hW hS g16 dX3_greatest_34 (fun H locs hW hS => ?_)
      obtain ⟨M17, eM18, h⟩ := zl_some h
      rw [← eM18] at hW
      refine lv_iinc (k := 3) (v := (x3 + 1)) (lv' := [(3, .int (x3 + 1)), (0, .ref (ad x0)), (1, .ref (ad x1)), (2, .int x2)]) hx hb dX3_greatest_35 hl rfl (by rw [show Int32.ofInt 1 = (1 : Int32) from by decide]) (by decide) rfl (fun ls hl => ?_)
      refine lv_goto (tgt := 12) hx hb dX3_greatest_38 (by decide) ?_
      exact ih h hW hS (lv_sub hl [1, 2, 3, 0] rfl)
def f_X3_greatest_0 (N : Nat) (K len : Nat → Nat) (x0 : Nat) (x1 : Nat) (M : ZM) : Option (Int64 × ZM) :=
(f_X0_size N K len x1 M).bind fun q1 => (
zg (K x1 == 1) (
f_X3_greatest_12 N K len  N x0 x1 (if (6 : Int32) < q1 then (6 : Int32) else q1) (0 : Int32) M))
set_option maxRecDepth 100000 in
set_option maxHeartbeats 4000000 in
theorem t_X3_greatest_0 {p : Program} {l : Launch} {e : Env} {s : State} {m : MethodId} {args : Array Value} {below : List Frame} {meth : Method} {c : Code} {D : va_G} {cy : Nat → ClassId} {ad : Nat → Nat} {L : List Nat} {K len : Nat → Nat} (C0 : zCx p s m c meth args cX3_greatest 5 wsX3_greatest RX3 (some .long) D cy ad L K) (N : Nat) {x0 : Nat} {x1 : Nat} {M : ZM} {r : Int64} {Mr : ZM} (h : f_X3_greatest_0 N K len x0 x1 M = some (r, Mr)) {H : Heap} {locs : List Loc} {ls : Array Slot} (hW : zWd D cy ad L K len M H) (hS : va_S (zA ad L s.heap.size) s.heap H locs) (hl : lv_has ls 5 [(0, .ref (ad x0)), (1, .ref (ad x1))]) : W p l e (headSpec wsX3_greatest ({ frames := 3, cells := 0, slots := 0, locals := 68 } : Room)).room s m args below meth c H locs 0 0 (MQ below (zQl D cy ad L K len r Mr s.heap.size) args s 0 0 (zA ad L s.heap.size)) (F0 m 0 ls []) := by
  obtain ⟨hx, hb, hr, hml, hown, hts, hlocks, hK, hL, hE⟩ := id C0
  unfold f_X3_greatest_0 at h
  refine lv_aload_n hx hb dX3_greatest_0 rfl (lv_at hl 1 rfl) ?_
  obtain ⟨q1, e2, h⟩ := zb_some h
  obtain ⟨g3, h⟩ := zg_some h
  refine z_calli hS (va_runV (As := []) (rest := []) ⟨hx, hb, hml, hown, hts⟩ (m_X0_size l hL N e2 H.size) (cwV 0 hts gX3_greatest_X0_size rfl rfl rfl (by decide +kernel) ⟨Nat.le_of_ble_eq_true rfl, Nat.le_of_ble_eq_true rfl⟩) (z_preV (q := (RX0, TX0, 2)) hK hL hE hW hS (zK_of g3) (by decide) rfl []) rfl rfl hl.1 rfl (lv_room (Nat.le_of_ble_eq_true rfl)) dX3_greatest_1 ⟨Nat.le_of_ble_eq_true rfl, Nat.le_of_ble_eq_true rfl⟩) (fun H locs hW hS => ?_)
  refine lv_bipush (v := 6) hx hb dX3_greatest_4 (by decide) ?_
  refine va_mmin (own := RX3) hx hb (hml.trans hl.1.symm) hown (hts (.methodLink RX3 31 Lib.Math.min.name) (by decide +kernel)) (hts (.static Lib.Math.min.name) (by decide +kernel)) (hts (.initialized "java/lang/Math") (by decide +kernel)) (hts (.code Lib.Math.min.name Lib.Math.min.code 2 (some .int)) (by decide +kernel)) (Nat.le_of_ble_eq_true rfl) (Nat.le_of_ble_eq_true rfl) (Nat.zero_le _) (Nat.zero_le _) dX3_greatest_6 ?_
  refine lv_istore_n (lv' := [(2, .int (if (6 : Int32) < q1 then (6 : Int32) else q1)), (0, .ref (ad x0)), (1, .ref (ad x1))]) hx hb dX3_greatest_9 rfl hl (by decide) rfl (fun ls hl => ?_)
  refine lv_iconst (v := 0) hx hb dX3_greatest_10 (by decide) ?_
  refine lv_istore_n (lv' := [(3, .int (0 : Int32)), (2, .int (if (6 : Int32) < q1 then (6 : Int32) else q1)), (0, .ref (ad x0)), (1, .ref (ad x1))]) hx hb dX3_greatest_11 rfl hl (by decide) rfl (fun ls hl => ?_)
  exact t_X3_greatest_12 C0 N  N h hW hS (lv_sub hl [2, 3, 1, 0] rfl)
def f_X3_greatest (N : Nat) (K len : Nat → Nat) (a0 : Nat) (a1 : Nat) (M : ZM) : Option (Int64 × ZM) := f_X3_greatest_0 N K len a0 a1 M
set_option maxRecDepth 100000 in
set_option maxHeartbeats 4000000 in
theorem m_X3_greatest (l : Launch) {D : va_G} {cy : Nat → ClassId} {ad : Nat → Nat} {L : List Nat} {K len : Nat → Nat} (hL : zSh ad L K) (N : Nat) {a0 : Nat} {a1 : Nat} {M : ZM} {r : Int64} {Mr : ZM} (h : f_X3_greatest N K len a0 a1 M = some (r, Mr)) (sz : Nat) : Met l yX3_greatest wsX3_greatest ({ frames := 3, cells := 0, slots := 0, locals := 68 } : Room) (zPre D cy ad L K len sz [.ref (ad a0), .ref (ad a1)] M) (zQl D cy ad L K len r Mr sz) 0 0 (zA ad L sz) :=
  z_entry (Qf := fun sz => zQl D cy ad L K len r Mr sz) (av := [.ref (ad a0), .ref (ad a1)]) (by decide) rfl rfl hL (Nat.le_of_ble_eq_true rfl) (fun p e s m args below meth c C0 H locs ls hW hS hl => t_X3_greatest_0 C0 N h hW hS (lv_sub hl [0, 1] rfl))

/-! Walks laid by program (wip/whole/gen): X4_size, X4_greatest, X4_least, X4_countAbove, X4_ofRank, X4_note, X4_closesCircle, X4_crossesEarlier -/
def f_X4_size_0 (N : Nat) (K len : Nat → Nat) (x0 : Nat) (M : ZM) : Option (Int32) :=
zg (K x0 == 5) (
some (zI M x0 2))
set_option maxRecDepth 100000 in
set_option maxHeartbeats 4000000 in
theorem t_X4_size_0 {p : Program} {l : Launch} {e : Env} {s : State} {m : MethodId} {args : Array Value} {below : List Frame} {meth : Method} {c : Code} {D : va_G} {cy : Nat → ClassId} {ad : Nat → Nat} {L : List Nat} {K len : Nat → Nat} (C0 : zCx p s m c meth args cX4_size 1 wsX4_size RX4 (some .int) D cy ad L K) (N : Nat) {x0 : Nat} {M : ZM} {r : Int32} (h : f_X4_size_0 N K len x0 M = some r) {H : Heap} {locs : List Loc} {ls : Array Slot} (hW : zWd D cy ad L K len M H) (hS : va_S (zA ad L s.heap.size) s.heap H locs) (hl : lv_has ls 1 [(0, .ref (ad x0))]) : W p l e (headSpec wsX4_size ({ frames := 0, cells := 0, slots := 0, locals := 0 } : Room)).room s m args below meth c H locs 0 0 (MQ below (zQi D cy ad L K len r M s.heap.size) args s 0 0 (zA ad L s.heap.size)) (F0 m 0 ls []) := by
  obtain ⟨hx, hb, hr, hml, hown, hts, hlocks, hK, hL, hE⟩ := id C0
  have hinX4 : ∀ w ∈ wsX40, w ∈ wsX4_size := by decide +kernel
  unfold f_X4_size_0 at h
  refine lv_aload_n hx hb dX4_size_0 rfl (lv_at hl 0 rfl) ?_
  obtain ⟨g1, h⟩ := zg_some h
  refine z_get (own := RX4) (C := RX4) (T := TX4) (N := 3) (ci := 4) hx hb hts hinX4 hown hK hL hW 2 (zK_of g1) rfl (by decide) (by decide) rfl (hts (.fieldLink RX4 19 "ArcLight$Trial" "found" "I") (by decide +kernel)) (v := .int (zI M x0 2)) rfl dX4_size_1 ?_
  exact z_iret hx hb hr hlocks hW hS (Option.some.inj h) rfl dX4_size_4
def f_X4_size (N : Nat) (K len : Nat → Nat) (a0 : Nat) (M : ZM) : Option (Int32) := f_X4_size_0 N K len a0 M
set_option maxRecDepth 100000 in
set_option maxHeartbeats 4000000 in
theorem m_X4_size (l : Launch) {D : va_G} {cy : Nat → ClassId} {ad : Nat → Nat} {L : List Nat} {K len : Nat → Nat} (hL : zSh ad L K) (N : Nat) {a0 : Nat} {M : ZM} {r : Int32} (h : f_X4_size N K len a0 M = some r) (sz : Nat) : Met l yX4_size wsX4_size ({ frames := 0, cells := 0, slots := 0, locals := 0 } : Room) (zPre D cy ad L K len sz [.ref (ad a0)] M) (zQi D cy ad L K len r M sz) 0 0 (zA ad L sz) :=
  z_entry (Qf := fun sz => zQi D cy ad L K len r M sz) (av := [.ref (ad a0)]) (by decide) rfl rfl hL (Nat.le_of_ble_eq_true rfl) (fun p e s m args below meth c C0 H locs ls hW hS hl => t_X4_size_0 C0 N h hW hS (lv_sub hl [0] rfl))
def f_X4_greatest_6 (N : Nat) (K len : Nat → Nat) : Nat → Nat → Int64 → Int32 → ZM → Option (Int64)
  | 0, _, _, _, _ => none
  | n + 1, x0, x1, x3, M =>
    zg (K x0 == 5) (
    (if (zI M x0 2) ≤ x3 then
    some x1
    else
    (zR M x0 0).bind fun b3 => (
    zg (11 ≤ K b3 && K b3 ≤ 17) (
    (if (Int32.ofNat (len b3)) ≤ x3 then
    some x1
    else
    zg (zok K len b3 12 x3) (
    f_X4_greatest_6 N K len  n x0 (if (zJ M b3 x3.toNatClampNeg) < x1 then x1 else (zJ M b3 x3.toNatClampNeg)) (x3 + 1) M))))))
set_option maxRecDepth 100000 in
set_option maxHeartbeats 4000000 in
theorem t_X4_greatest_6 {p : Program} {l : Launch} {e : Env} {s : State} {m : MethodId} {args : Array Value} {below : List Frame} {meth : Method} {c : Code} {D : va_G} {cy : Nat → ClassId} {ad : Nat → Nat} {L : List Nat} {K len : Nat → Nat} (C0 : zCx p s m c meth args cX4_greatest 4 wsX4_greatest RX4 (some .long) D cy ad L K) (N : Nat) {M : ZM} {r : Int64} : ∀ (n : Nat) {x0 : Nat} {x1 : Int64} {x3 : Int32}, f_X4_greatest_6 N K len n x0 x1 x3 M = some r → ∀ {H : Heap} {locs : List Loc} {ls : Array Slot}, zWd D cy ad L K len M H → va_S (zA ad L s.heap.size) s.heap H locs → lv_has ls 4 [(0, .ref (ad x0)), (1, .long x1), (3, .int x3)] → W p l e (headSpec wsX4_greatest ({ frames := 1, cells := 0, slots := 0, locals := 24 } : Room)).room s m args below meth c H locs 0 0 (MQ below (zQl D cy ad L K len r M s.heap.size) args s 0 0 (zA ad L s.heap.size)) (F0 m 6 ls []) := by
  obtain ⟨hx, hb, hr, hml, hown, hts, hlocks, hK, hL, hE⟩ := id C0
  have hinX4 : ∀ w ∈ wsX40, w ∈ wsX4_greatest := by decide +kernel
  intro n
  induction n with
  | zero =>
    intro x0 x1 x3 h
    cases (show (none : Option (Int64)) = some r from h)
  | succ n ih =>
    intro x0 x1 x3 h H locs ls hW hS hl
    rw [f_X4_greatest_6] at h
    refine lv_iload_n hx hb dX4_greatest_6 rfl (lv_at hl 2 rfl) ?_
    refine lv_aload_n hx hb dX4_greatest_7 rfl (lv_at hl 0 rfl) ?_
    obtain ⟨g1, h⟩ := zg_some h
    refine z_get (own := RX4) (C := RX4) (T := TX4) (N := 3) (ci := 4) hx hb hts hinX4 hown hK hL hW 2 (zK_of g1) rfl (by decide) (by decide) rfl (hts (.fieldLink RX4 19 "ArcLight$Trial" "found" "I") (by decide +kernel)) (v := .int (zI M x0 2)) rfl dX4_greatest_8 ?_
    refine lv_icmp_ge (tgt := 40) hx hb dX4_greatest_11 (by decide) (fun c2 => ?_) (fun c2 => ?_)
    · have h := zip c2 h
      refine lv_lload_n hx hb dX4_greatest_40 rfl (lv_at hl 1 rfl) ?_
      exact z_lret hx hb hr hlocks hW hS (Option.some.inj h) rfl dX4_greatest_41
    · have h := zin c2 h
      refine lv_iload_n hx hb dX4_greatest_14 rfl (lv_at hl 2 rfl) ?_
      refine lv_aload_n hx hb dX4_greatest_15 rfl (lv_at hl 0 rfl) ?_
      obtain ⟨b3, e4, h⟩ := zb_some h
      refine z_get (own := RX4) (C := RX4) (T := TX4) (N := 3) (ci := 4) hx hb hts hinX4 hown hK hL hW 0 (zK_of g1) rfl (by decide) (by decide) rfl (hts (.fieldLink RX4 9 "ArcLight$Trial" "keys" "[J") (by decide +kernel)) (v := .ref (ad b3)) (zhvR e4 rfl) dX4_greatest_16 ?_
      obtain ⟨g5, h⟩ := zg_some h
      refine z_alen hx hb hK hL hW g5 dX4_greatest_19 ?_
      refine lv_icmp_ge (tgt := 40) hx hb dX4_greatest_20 (by decide) (fun c6 => ?_) (fun c6 => ?_)
      · have h := zip c6 h
        refine lv_lload_n hx hb dX4_greatest_40 rfl (lv_at hl 1 rfl) ?_
        exact z_lret hx hb hr hlocks hW hS (Option.some.inj h) rfl dX4_greatest_41
      · have h := zin c6 h
        refine lv_lload_n hx hb dX4_greatest_23 rfl (lv_at hl 1 rfl) ?_
        refine lv_aload_n hx hb dX4_greatest_24 rfl (lv_at hl 0 rfl) ?_
        refine z_get (own := RX4) (C := RX4) (T := TX4) (N := 3) (ci := 4) hx hb hts hinX4 hown hK hL hW 0 (zK_of g1) rfl (by decide) (by decide) rfl (hts (.fieldLink RX4 9 "ArcLight$Trial" "keys" "[J") (by decide +kernel)) (v := .ref (ad b3)) (zhvR e4 rfl) dX4_greatest_25 ?_
        refine lv_iload_n hx hb dX4_greatest_28 rfl (lv_at hl 2 rfl) ?_
        obtain ⟨g7, h⟩ := zg_some h
        refine z_lald hx hb hK hL hW g7 dX4_greatest_29 ?_
        refine va_mmax_long (own := RX4) hx hb (hml.trans hl.1.symm) hown (hts (.methodLink RX4 29 Lib.MathLoose.max_long.x) (by decide +kernel)) (hts (.static Lib.MathLoose.max_long.x) (by decide +kernel)) (hts (.initialized "java/lang/Math") (by decide +kernel)) (hts (.code Lib.MathLoose.max_long.x Lib.MathLoose.max_long.code 4 (some .long)) (by decide +kernel)) (Nat.le_of_ble_eq_true rfl) (Nat.le_of_ble_eq_true rfl) (Nat.zero_le _) (Nat.zero_le _) dX4_greatest_30 ?_
        refine lv_lstore_n (lv' := [(1, .long (if (zJ M b3 x3.toNatClampNeg) < x1 then x1 else (zJ M b3 x3.toNatClampNeg))), (0, .ref (ad x0)), (3, .int x3)]) hx hb dX4_greatest_33 rfl hl (by decide) rfl (fun ls hl => ?_)
        refine lv_iinc (k := 2) (v := (x3 + 1)) (lv' := [(3, .int (x3 + 1)), (1, .long (if (zJ M b3 x3.toNatClampNeg) < x1 then x1 else (zJ M b3 x3.toNatClampNeg))), (0, .ref (ad x0))]) hx hb dX4_greatest_34 hl rfl (by rw [show Int32.ofInt 1 = (1 : Int32) from by decide]) (by decide) rfl (fun ls hl => ?_)
        refine lv_goto (tgt := 6) hx hb dX4_greatest_37 (by decide) ?_
        exact ih h hW hS (lv_sub hl [2, 1, 0] rfl)
def f_X4_greatest_0 (N : Nat) (K len : Nat → Nat) (x0 : Nat) (M : ZM) : Option (Int64) :=
f_X4_greatest_6 N K len  N x0 (-9223372036854775808 : Int64) (0 : Int32) M
set_option maxRecDepth 100000 in
set_option maxHeartbeats 4000000 in
theorem t_X4_greatest_0 {p : Program} {l : Launch} {e : Env} {s : State} {m : MethodId} {args : Array Value} {below : List Frame} {meth : Method} {c : Code} {D : va_G} {cy : Nat → ClassId} {ad : Nat → Nat} {L : List Nat} {K len : Nat → Nat} (C0 : zCx p s m c meth args cX4_greatest 4 wsX4_greatest RX4 (some .long) D cy ad L K) (N : Nat) {x0 : Nat} {M : ZM} {r : Int64} (h : f_X4_greatest_0 N K len x0 M = some r) {H : Heap} {locs : List Loc} {ls : Array Slot} (hW : zWd D cy ad L K len M H) (hS : va_S (zA ad L s.heap.size) s.heap H locs) (hl : lv_has ls 4 [(0, .ref (ad x0))]) : W p l e (headSpec wsX4_greatest ({ frames := 1, cells := 0, slots := 0, locals := 24 } : Room)).room s m args below meth c H locs 0 0 (MQ below (zQl D cy ad L K len r M s.heap.size) args s 0 0 (zA ad L s.heap.size)) (F0 m 0 ls []) := by
  obtain ⟨hx, hb, hr, hml, hown, hts, hlocks, hK, hL, hE⟩ := id C0
  unfold f_X4_greatest_0 at h
  refine lv_ldc2 hx hb hown (hts (.constantLong RX4 27 (-9223372036854775808)) (by decide +kernel)) dX4_greatest_0 ?_
  refine lv_lstore_n (lv' := [(1, .long (-9223372036854775808 : Int64)), (0, .ref (ad x0))]) hx hb dX4_greatest_3 rfl hl (by decide) rfl (fun ls hl => ?_)
  refine lv_iconst (v := 0) hx hb dX4_greatest_4 (by decide) ?_
  refine lv_istore_n (lv' := [(3, .int (0 : Int32)), (1, .long (-9223372036854775808 : Int64)), (0, .ref (ad x0))]) hx hb dX4_greatest_5 rfl hl (by decide) rfl (fun ls hl => ?_)
  exact t_X4_greatest_6 C0 N  N h hW hS (lv_sub hl [2, 1, 0] rfl)
def f_X4_greatest (N : Nat) (K len : Nat → Nat) (a0 : Nat) (M : ZM) : Option (Int64) := f_X4_greatest_0 N K len a0 M
set_option maxRecDepth 100000 in
set_option maxHeartbeats 4000000 in
theorem m_X4_greatest (l : Launch) {D : va_G} {cy : Nat → ClassId} {ad : Nat → Nat} {L : List Nat} {K len : Nat → Nat} (hL : zSh ad L K) (N : Nat) {a0 : Nat} {M : ZM} {r : Int64} (h : f_X4_greatest N K len a0 M = some r) (sz : Nat) : Met l yX4_greatest wsX4_greatest ({ frames := 1, cells := 0, slots := 0, locals := 24 } : Room) (zPre D cy ad L K len sz [.ref (ad a0)] M) (zQl D cy ad L K len r M sz) 0 0 (zA ad L sz) :=
  z_entry (Qf := fun sz => zQl D cy ad L K len r M sz) (av := [.ref (ad a0)]) (by decide) rfl rfl hL (Nat.le_of_ble_eq_true rfl) (fun p e s m args below meth c C0 H locs ls hW hS hl => t_X4_greatest_0 C0 N h hW hS (lv_sub hl [0] rfl))
def f_X4_least_5 (N : Nat) (K len : Nat → Nat) : Nat → Nat → Int64 → Int32 → ZM → Option (Int64)
  | 0, _, _, _, _ => none
  | n + 1, x0, x3, x5, M =>
    zg (K x0 == 5) (
    (if (zI M x0 2) ≤ x5 then
    some x3
    else
    (zR M x0 0).bind fun b3 => (
    zg (11 ≤ K b3 && K b3 ≤ 17) (
    (if (Int32.ofNat (len b3)) ≤ x5 then
    some x3
    else
    zg (zok K len b3 12 x5) (
    f_X4_least_5 N K len  n x0 (if (zJ M b3 x5.toNatClampNeg) < x3 then (zJ M b3 x5.toNatClampNeg) else x3) (x5 + 1) M))))))
set_option maxRecDepth 100000 in
set_option maxHeartbeats 4000000 in
theorem t_X4_least_5 {p : Program} {l : Launch} {e : Env} {s : State} {m : MethodId} {args : Array Value} {below : List Frame} {meth : Method} {c : Code} {D : va_G} {cy : Nat → ClassId} {ad : Nat → Nat} {L : List Nat} {K len : Nat → Nat} (C0 : zCx p s m c meth args cX4_least 6 wsX4_least RX4 (some .long) D cy ad L K) (N : Nat) {M : ZM} {r : Int64} : ∀ (n : Nat) {x0 : Nat} {x3 : Int64} {x5 : Int32}, f_X4_least_5 N K len n x0 x3 x5 M = some r → ∀ {H : Heap} {locs : List Loc} {ls : Array Slot}, zWd D cy ad L K len M H → va_S (zA ad L s.heap.size) s.heap H locs → lv_has ls 6 [(0, .ref (ad x0)), (3, .long x3), (5, .int x5)] → W p l e (headSpec wsX4_least ({ frames := 1, cells := 0, slots := 0, locals := 24 } : Room)).room s m args below meth c H locs 0 0 (MQ below (zQl D cy ad L K len r M s.heap.size) args s 0 0 (zA ad L s.heap.size)) (F0 m 5 ls []) := by
  obtain ⟨hx, hb, hr, hml, hown, hts, hlocks, hK, hL, hE⟩ := id C0
  have hinX4 : ∀ w ∈ wsX40, w ∈ wsX4_least := by decide +kernel
  intro n
  induction n with
  | zero =>
    intro x0 x3 x5 h
    cases (show (none : Option (Int64)) = some r from h)
  | succ n ih =>
    intro x0 x3 x5 h H locs ls hW hS hl
    rw [f_X4_least_5] at h
    refine lv_iload hx hb dX4_least_5 (lv_at hl 2 rfl) ?_
    refine lv_aload_n hx hb dX4_least_7 rfl (lv_at hl 0 rfl) ?_
    obtain ⟨g1, h⟩ := zg_some h
    refine z_get (own := RX4) (C := RX4) (T := TX4) (N := 3) (ci := 4) hx hb hts hinX4 hown hK hL hW 2 (zK_of g1) rfl (by decide) (by decide) rfl (hts (.fieldLink RX4 19 "ArcLight$Trial" "found" "I") (by decide +kernel)) (v := .int (zI M x0 2)) rfl dX4_least_8 ?_
    refine lv_icmp_ge (tgt := 42) hx hb dX4_least_11 (by decide) (fun c2 => ?_) (fun c2 => ?_)
    · have h := zip c2 h
      refine lv_lload_n hx hb dX4_least_42 rfl (lv_at hl 1 rfl) ?_
      exact z_lret hx hb hr hlocks hW hS (Option.some.inj h) rfl dX4_least_43
    · have h := zin c2 h
      refine lv_iload hx hb dX4_least_14 (lv_at hl 2 rfl) ?_
      refine lv_aload_n hx hb dX4_least_16 rfl (lv_at hl 0 rfl) ?_
      obtain ⟨b3, e4, h⟩ := zb_some h
      refine z_get (own := RX4) (C := RX4) (T := TX4) (N := 3) (ci := 4) hx hb hts hinX4 hown hK hL hW 0 (zK_of g1) rfl (by decide) (by decide) rfl (hts (.fieldLink RX4 9 "ArcLight$Trial" "keys" "[J") (by decide +kernel)) (v := .ref (ad b3)) (zhvR e4 rfl) dX4_least_17 ?_
      obtain ⟨g5, h⟩ := zg_some h
      refine z_alen hx hb hK hL hW g5 dX4_least_20 ?_
      refine lv_icmp_ge (tgt := 42) hx hb dX4_least_21 (by decide) (fun c6 => ?_) (fun c6 => ?_)
      · have h := zip c6 h
        refine lv_lload_n hx hb dX4_least_42 rfl (lv_at hl 1 rfl) ?_
        exact z_lret hx hb hr hlocks hW hS (Option.some.inj h) rfl dX4_least_43
      · have h := zin c6 h
        refine lv_lload_n hx hb dX4_least_24 rfl (lv_at hl 1 rfl) ?_
        refine lv_aload_n hx hb dX4_least_25 rfl (lv_at hl 0 rfl) ?_
        refine z_get (own := RX4) (C := RX4) (T := TX4) (N := 3) (ci := 4) hx hb hts hinX4 hown hK hL hW 0 (zK_of g1) rfl (by decide) (by decide) rfl (hts (.fieldLink RX4 9 "ArcLight$Trial" "keys" "[J") (by decide +kernel)) (v := .ref (ad b3)) (zhvR e4 rfl) dX4_least_26 ?_
        refine lv_iload hx hb dX4_least_29 (lv_at hl 2 rfl) ?_
        obtain ⟨g7, h⟩ := zg_some h
        refine z_lald hx hb hK hL hW g7 dX4_least_31 ?_
        refine va_mmin_long (own := RX4) hx hb (hml.trans hl.1.symm) hown (hts (.methodLink RX4 49 Lib.MathLoose.min_long.x) (by decide +kernel)) (hts (.static Lib.MathLoose.min_long.x) (by decide +kernel)) (hts (.initialized "java/lang/Math") (by decide +kernel)) (hts (.code Lib.MathLoose.min_long.x Lib.MathLoose.min_long.code 4 (some .long)) (by decide +kernel)) (Nat.le_of_ble_eq_true rfl) (Nat.le_of_ble_eq_true rfl) (Nat.zero_le _) (Nat.zero_le _) dX4_least_32 ?_
        refine lv_lstore_n (lv' := [(3, .long (if (zJ M b3 x5.toNatClampNeg) < x3 then (zJ M b3 x5.toNatClampNeg) else x3)), (0, .ref (ad x0)), (5, .int x5)]) hx hb dX4_least_35 rfl hl (by decide) rfl (fun ls hl => ?_)
        refine lv_iinc (k := 2) (v := (x5 + 1)) (lv' := [(5, .int (x5 + 1)), (3, .long (if (zJ M b3 x5.toNatClampNeg) < x3 then (zJ M b3 x5.toNatClampNeg) else x3)), (0, .ref (ad x0))]) hx hb dX4_least_36 hl rfl (by rw [show Int32.ofInt 1 = (1 : Int32) from by decide]) (by decide) rfl (fun ls hl => ?_)
        refine lv_goto (tgt := 5) hx hb dX4_least_39 (by decide) ?_
        exact ih h hW hS (lv_sub hl [2, 1, 0] rfl)
def f_X4_least_0 (N : Nat) (K len : Nat → Nat) (x0 : Nat) (x1 : Int64) (M : ZM) : Option (Int64) :=
f_X4_least_5 N K len  N x0 x1 (0 : Int32) M
set_option maxRecDepth 100000 in
set_option maxHeartbeats 4000000 in
theorem t_X4_least_0 {p : Program} {l : Launch} {e : Env} {s : State} {m : MethodId} {args : Array Value} {below : List Frame} {meth : Method} {c : Code} {D : va_G} {cy : Nat → ClassId} {ad : Nat → Nat} {L : List Nat} {K len : Nat → Nat} (C0 : zCx p s m c meth args cX4_least 6 wsX4_least RX4 (some .long) D cy ad L K) (N : Nat) {x0 : Nat} {x1 : Int64} {M : ZM} {r : Int64} (h : f_X4_least_0 N K len x0 x1 M = some r) {H : Heap} {locs : List Loc} {ls : Array Slot} (hW : zWd D cy ad L K len M H) (hS : va_S (zA ad L s.heap.size) s.heap H locs) (hl : lv_has ls 6 [(0, .ref (ad x0)), (1, .long x1)]) : W p l e (headSpec wsX4_least ({ frames := 1, cells := 0, slots := 0, locals := 24 } : Room)).room s m args below meth c H locs 0 0 (MQ below (zQl D cy ad L K len r M s.heap.size) args s 0 0 (zA ad L s.heap.size)) (F0 m 0 ls []) := by
  obtain ⟨hx, hb, hr, hml, hown, hts, hlocks, hK, hL, hE⟩ := id C0
  unfold f_X4_least_0 at h
  refine lv_lload_n hx hb dX4_least_0 rfl (lv_at hl 1 rfl) ?_
  refine lv_lstore_n (lv' := [(3, .long x1), (0, .ref (ad x0)), (1, .long x1)]) hx hb dX4_least_1 rfl hl (by decide) rfl (fun ls hl => ?_)
  refine lv_iconst (v := 0) hx hb dX4_least_2 (by decide) ?_
  refine lv_istore (lv' := [(5, .int (0 : Int32)), (3, .long x1), (0, .ref (ad x0)), (1, .long x1)]) hx hb dX4_least_3 hl (by decide) rfl (fun ls hl => ?_)
  exact t_X4_least_5 C0 N  N h hW hS (lv_sub hl [2, 1, 0] rfl)
def f_X4_least (N : Nat) (K len : Nat → Nat) (a0 : Nat) (a1 : Int64) (M : ZM) : Option (Int64) := f_X4_least_0 N K len a0 a1 M
set_option maxRecDepth 100000 in
set_option maxHeartbeats 4000000 in
theorem m_X4_least (l : Launch) {D : va_G} {cy : Nat → ClassId} {ad : Nat → Nat} {L : List Nat} {K len : Nat → Nat} (hL : zSh ad L K) (N : Nat) {a0 : Nat} {a1 : Int64} {M : ZM} {r : Int64} (h : f_X4_least N K len a0 a1 M = some r) (sz : Nat) : Met l yX4_least wsX4_least ({ frames := 1, cells := 0, slots := 0, locals := 24 } : Room) (zPre D cy ad L K len sz [.ref (ad a0), .long a1] M) (zQl D cy ad L K len r M sz) 0 0 (zA ad L sz) :=
  z_entry (Qf := fun sz => zQl D cy ad L K len r M sz) (av := [.ref (ad a0), .long a1]) (by decide) rfl rfl hL (Nat.le_of_ble_eq_true rfl) (fun p e s m args below meth c C0 H locs ls hW hS hl => t_X4_least_0 C0 N h hW hS (lv_sub hl [0, 1] rfl))
def f_X4_countAbove_39 (N : Nat) (K len : Nat → Nat) (kh5 : Nat → Int64 → Int32 → Int32 → Option (Int32)) (x0 : Nat) (x1 : Int64) (x3 : Int32) (x4 : Int32) (M : ZM) : Option (Int32) :=
kh5 x0 x1 x3 (x4 + 1)
set_option maxRecDepth 100000 in
set_option maxHeartbeats 4000000 in
theorem t_X4_countAbove_39 {p : Program} {l : Launch} {e : Env} {s : State} {m : MethodId} {args : Array Value} {below : List Frame} {meth : Method} {c : Code} {D : va_G} {cy : Nat → ClassId} {ad : Nat → Nat} {L : List Nat} {K len : Nat → Nat} (C0 : zCx p s m c meth args cX4_countAbove 5 wsX4_countAbove RX4 (some .int) D cy ad L K) (N : Nat) {kh5 : Nat → Int64 → Int32 → Int32 → Option (Int32)} {x0 : Nat} {x1 : Int64} {x3 : Int32} {x4 : Int32} {M : ZM} {r : Int32} (hk5 : ∀ {y0 : Nat} {y1 : Int64} {y3 : Int32} {y4 : Int32}, kh5 y0 y1 y3 y4 = some r → ∀ {H : Heap} {locs : List Loc} {ls : Array Slot}, zWd D cy ad L K len M H → va_S (zA ad L s.heap.size) s.heap H locs → lv_has ls 5 [(0, .ref (ad y0)), (1, .long y1), (3, .int y3), (4, .int y4)] → W p l e (headSpec wsX4_countAbove ({ frames := 0, cells := 0, slots := 0, locals := 0 } : Room)).room s m args below meth c H locs 0 0 (MQ below (zQi D cy ad L K len r M s.heap.size) args s 0 0 (zA ad L s.heap.size)) (F0 m 5 ls [])) (h : f_X4_countAbove_39 N K len kh5 x0 x1 x3 x4 M = some r) {H : Heap} {locs : List Loc} {ls : Array Slot} (hW : zWd D cy ad L K len M H) (hS : va_S (zA ad L s.heap.size) s.heap H locs) (hl : lv_has ls 5 [(0, .ref (ad x0)), (1, .long x1), (3, .int x3), (4, .int x4)]) : W p l e (headSpec wsX4_countAbove ({ frames := 0, cells := 0, slots := 0, locals := 0 } : Room)).room s m args below meth c H locs 0 0 (MQ below (zQi D cy ad L K len r M s.heap.size) args s 0 0 (zA ad L s.heap.size)) (F0 m 39 ls []) := by
  obtain ⟨hx, hb, hr, hml, hown, hts, hlocks, hK, hL, hE⟩ := id C0
  unfold f_X4_countAbove_39 at h
  refine lv_iinc (k := 3) (v := (x4 + 1)) (lv' := [(4, .int (x4 + 1)), (0, .ref (ad x0)), (1, .long x1), (3, .int x3)]) hx hb dX4_countAbove_39 hl rfl (by rw [show Int32.ofInt 1 = (1 : Int32) from by decide]) (by decide) rfl (fun ls hl => ?_)
  refine lv_goto (tgt := 5) hx hb dX4_countAbove_42 (by decide) ?_
  exact hk5 h hW hS (lv_sub hl [1, 2, 3, 0] rfl)
def f_X4_countAbove_5 (N : Nat) (K len : Nat → Nat) : Nat → Nat → Int64 → Int32 → Int32 → ZM → Option (Int32)
  | 0, _, _, _, _, _ => none
  | n + 1, x0, x1, x3, x4, M =>
    zg (K x0 == 5) (
    (if (zI M x0 2) ≤ x4 then
    some x3
    else
    (zR M x0 0).bind fun b3 => (
    zg (11 ≤ K b3 && K b3 ≤ 17) (
    (if (Int32.ofNat (len b3)) ≤ x4 then
    some x3
    else
    zg (zok K len b3 12 x4) (
    (if (zJ M b3 x4.toNatClampNeg) ≤ x1 then
    f_X4_countAbove_39 N K len (fun y0 y1 y3 y4 => f_X4_countAbove_5 N K len  n y0 y1 y3 y4 M) x0 x1 x3 x4 M
    else
    f_X4_countAbove_39 N K len (fun y0 y1 y3 y4 => f_X4_countAbove_5 N K len  n y0 y1 y3 y4 M) x0 x1 (x3 + 1) x4 M)))))))
set_option maxRecDepth 100000 in
set_option maxHeartbeats 4000000 in
theorem t_X4_countAbove_5 {p : Program} {l : Launch} {e : Env} {s : State} {m : MethodId} {args : Array Value} {below : List Frame} {meth : Method} {c : Code} {D : va_G} {cy : Nat → ClassId} {ad : Nat → Nat} {L : List Nat} {K len : Nat → Nat} (C0 : zCx p s m c meth args cX4_countAbove 5 wsX4_countAbove RX4 (some .int) D cy ad L K) (N : Nat) {M : ZM} {r : Int32} : ∀ (n : Nat) {x0 : Nat} {x1 : Int64} {x3 : Int32} {x4 : Int32}, f_X4_countAbove_5 N K len n x0 x1 x3 x4 M = some r → ∀ {H : Heap} {locs : List Loc} {ls : Array Slot}, zWd D cy ad L K len M H → va_S (zA ad L s.heap.size) s.heap H locs → lv_has ls 5 [(0, .ref (ad x0)), (1, .long x1), (3, .int x3), (4, .int x4)] → W p l e (headSpec wsX4_countAbove ({ frames := 0, cells := 0, slots := 0, locals := 0 } : Room)).room s m args below meth c H locs 0 0 (MQ below (zQi D cy ad L K len r M s.heap.size) args s 0 0 (zA ad L s.heap.size)) (F0 m 5 ls []) := by
  obtain ⟨hx, hb, hr, hml, hown, hts, hlocks, hK, hL, hE⟩ := id C0
  have hinX4 : ∀ w ∈ wsX40, w ∈ wsX4_countAbove := by decide +kernel
  intro n
  induction n with
  | zero =>
    intro x0 x1 x3 x4 h
    cases (show (none : Option (Int32)) = some r from h)
  | succ n ih =>
    intro x0 x1 x3 x4 h H locs ls hW hS hl
    rw [f_X4_countAbove_5] at h
    refine lv_iload hx hb dX4_countAbove_5 (lv_at hl 3 rfl) ?_
    refine lv_aload_n hx hb dX4_countAbove_7 rfl (lv_at hl 0 rfl) ?_
    obtain ⟨g1, h⟩ := zg_some h
    refine z_get (own := RX4) (C := RX4) (T := TX4) (N := 3) (ci := 4) hx hb hts hinX4 hown hK hL hW 2 (zK_of g1) rfl (by decide) (by decide) rfl (hts (.fieldLink RX4 19 "ArcLight$Trial" "found" "I") (by decide +kernel)) (v := .int (zI M x0 2)) rfl dX4_countAbove_8 ?_
    refine lv_icmp_ge (tgt := 45) hx hb dX4_countAbove_11 (by decide) (fun c2 => ?_) (fun c2 => ?_)
    · have h := zip c2 h
      refine lv_iload_n hx hb dX4_countAbove_45 rfl (lv_at hl 2 rfl) ?_
      exact z_iret hx hb hr hlocks hW hS (Option.some.inj h) rfl dX4_countAbove_46
    · have h := zin c2 h
      refine lv_iload hx hb dX4_countAbove_14 (lv_at hl 3 rfl) ?_
      refine lv_aload_n hx hb dX4_countAbove_16 rfl (lv_at hl 0 rfl) ?_
      obtain ⟨b3, e4, h⟩ := zb_some h
      refine z_get (own := RX4) (C := RX4) (T := TX4) (N := 3) (ci := 4) hx hb hts hinX4 hown hK hL hW 0 (zK_of g1) rfl (by decide) (by decide) rfl (hts (.fieldLink RX4 9 "ArcLight$Trial" "keys" "[J") (by decide +kernel)) (v := .ref (ad b3)) (zhvR e4 rfl) dX4_countAbove_17 ?_
      obtain ⟨g5, h⟩ := zg_some h
      refine z_alen hx hb hK hL hW g5 dX4_countAbove_20 ?_
      refine lv_icmp_ge (tgt := 45) hx hb dX4_countAbove_21 (by decide) (fun c6 => ?_) (fun c6 => ?_)
      · have h := zip c6 h
        refine lv_iload_n hx hb dX4_countAbove_45 rfl (lv_at hl 2 rfl) ?_
        exact z_iret hx hb hr hlocks hW hS (Option.some.inj h) rfl dX4_countAbove_46
      · have h := zin c6 h
        refine lv_aload_n hx hb dX4_countAbove_24 rfl (lv_at hl 0 rfl) ?_
        refine z_get (own := RX4) (C := RX4) (T := TX4) (N := 3) (ci := 4) hx hb hts hinX4 hown hK hL hW 0 (zK_of g1) rfl (by decide) (by decide) rfl (hts (.fieldLink RX4 9 "ArcLight$Trial" "keys" "[J") (by decide +kernel)) (v := .ref (ad b3)) (zhvR e4 rfl) dX4_countAbove_25 ?_
        refine lv_iload hx hb dX4_countAbove_28 (lv_at hl 3 rfl) ?_
        obtain ⟨g7, h⟩ := zg_some h
        refine z_lald hx hb hK hL hW g7 dX4_countAbove_30 ?_
        refine lv_lload_n hx hb dX4_countAbove_31 rfl (lv_at hl 1 rfl) ?_
        refine z_lc_le (tgt := 39) hx hb dX4_countAbove_32 dX4_countAbove_33 (by decide) (fun c8 => ?_) (fun c8 => ?_)
        · have h := zip c8 h
          exact t_X4_countAbove_39 C0 N (fun h _ _ _ hW hS hl => ih h hW hS hl) h hW hS (lv_sub hl [0, 1, 2, 3] rfl)
        · have h := zin c8 h
          refine lv_iinc (k := 2) (v := (x3 + 1)) (lv' := [(3, .int (x3 + 1)), (0, .ref (ad x0)), (1, .long x1), (4, .int x4)]) hx hb dX4_countAbove_36 hl rfl (by rw [show Int32.ofInt 1 = (1 : Int32) from by decide]) (by decide) rfl (fun ls hl => ?_)
          exact t_X4_countAbove_39 C0 N (fun h _ _ _ hW hS hl => ih h hW hS hl) h hW hS (lv_sub hl [1, 2, 0, 3] rfl)
def f_X4_countAbove_0 (N : Nat) (K len : Nat → Nat) (x0 : Nat) (x1 : Int64) (M : ZM) : Option (Int32) :=
f_X4_countAbove_5 N K len  N x0 x1 (0 : Int32) (0 : Int32) M
set_option maxRecDepth 100000 in
set_option maxHeartbeats 4000000 in
theorem t_X4_countAbove_0 {p : Program} {l : Launch} {e : Env} {s : State} {m : MethodId} {args : Array Value} {below : List Frame} {meth : Method} {c : Code} {D : va_G} {cy : Nat → ClassId} {ad : Nat → Nat} {L : List Nat} {K len : Nat → Nat} (C0 : zCx p s m c meth args cX4_countAbove 5 wsX4_countAbove RX4 (some .int) D cy ad L K) (N : Nat) {x0 : Nat} {x1 : Int64} {M : ZM} {r : Int32} (h : f_X4_countAbove_0 N K len x0 x1 M = some r) {H : Heap} {locs : List Loc} {ls : Array Slot} (hW : zWd D cy ad L K len M H) (hS : va_S (zA ad L s.heap.size) s.heap H locs) (hl : lv_has ls 5 [(0, .ref (ad x0)), (1, .long x1)]) : W p l e (headSpec wsX4_countAbove ({ frames := 0, cells := 0, slots := 0, locals := 0 } : Room)).room s m args below meth c H locs 0 0 (MQ below (zQi D cy ad L K len r M s.heap.size) args s 0 0 (zA ad L s.heap.size)) (F0 m 0 ls []) := by
  obtain ⟨hx, hb, hr, hml, hown, hts, hlocks, hK, hL, hE⟩ := id C0
  unfold f_X4_countAbove_0 at h
  refine lv_iconst (v := 0) hx hb dX4_countAbove_0 (by decide) ?_
  refine lv_istore_n (lv' := [(3, .int (0 : Int32)), (0, .ref (ad x0)), (1, .long x1)]) hx hb dX4_countAbove_1 rfl hl (by decide) rfl (fun ls hl => ?_)
  refine lv_iconst (v := 0) hx hb dX4_countAbove_2 (by decide) ?_
  refine lv_istore (lv' := [(4, .int (0 : Int32)), (3, .int (0 : Int32)), (0, .ref (ad x0)), (1, .long x1)]) hx hb dX4_countAbove_3 hl (by decide) rfl (fun ls hl => ?_)
  exact t_X4_countAbove_5 C0 N  N h hW hS (lv_sub hl [2, 3, 1, 0] rfl)
def f_X4_countAbove (N : Nat) (K len : Nat → Nat) (a0 : Nat) (a1 : Int64) (M : ZM) : Option (Int32) := f_X4_countAbove_0 N K len a0 a1 M
set_option maxRecDepth 100000 in
set_option maxHeartbeats 4000000 in
theorem m_X4_countAbove (l : Launch) {D : va_G} {cy : Nat → ClassId} {ad : Nat → Nat} {L : List Nat} {K len : Nat → Nat} (hL : zSh ad L K) (N : Nat) {a0 : Nat} {a1 : Int64} {M : ZM} {r : Int32} (h : f_X4_countAbove N K len a0 a1 M = some r) (sz : Nat) : Met l yX4_countAbove wsX4_countAbove ({ frames := 0, cells := 0, slots := 0, locals := 0 } : Room) (zPre D cy ad L K len sz [.ref (ad a0), .long a1] M) (zQi D cy ad L K len r M sz) 0 0 (zA ad L sz) :=
  z_entry (Qf := fun sz => zQi D cy ad L K len r M sz) (av := [.ref (ad a0), .long a1]) (by decide) rfl rfl hL (Nat.le_of_ble_eq_true rfl) (fun p e s m args below meth c C0 H locs ls hW hS hl => t_X4_countAbove_0 C0 N h hW hS (lv_sub hl [0, 1] rfl))
def f_X4_ofRank_64 (N : Nat) (K len : Nat → Nat) (kh15 : Nat → Int32 → Int64 → Int64 → Int32 → Option (Int64)) (x0 : Nat) (x1 : Int32) (x2 : Int64) (x4 : Int64) (x6 : Int32) (M : ZM) : Option (Int64) :=
kh15 x0 x1 x2 x4 (x6 + 1)
set_option maxRecDepth 100000 in
set_option maxHeartbeats 4000000 in
theorem t_X4_ofRank_64 {p : Program} {l : Launch} {e : Env} {s : State} {m : MethodId} {args : Array Value} {below : List Frame} {meth : Method} {c : Code} {D : va_G} {cy : Nat → ClassId} {ad : Nat → Nat} {L : List Nat} {K len : Nat → Nat} (C0 : zCx p s m c meth args cX4_ofRank 9 wsX4_ofRank RX4 (some .long) D cy ad L K) (N : Nat) {kh15 : Nat → Int32 → Int64 → Int64 → Int32 → Option (Int64)} {x0 : Nat} {x1 : Int32} {x2 : Int64} {x4 : Int64} {x6 : Int32} {M : ZM} {r : Int64} (hk15 : ∀ {y0 : Nat} {y1 : Int32} {y2 : Int64} {y4 : Int64} {y6 : Int32}, kh15 y0 y1 y2 y4 y6 = some r → ∀ {H : Heap} {locs : List Loc} {ls : Array Slot}, zWd D cy ad L K len M H → va_S (zA ad L s.heap.size) s.heap H locs → lv_has ls 9 [(0, .ref (ad y0)), (1, .int y1), (2, .long y2), (4, .long y4), (6, .int y6)] → W p l e (headSpec wsX4_ofRank ({ frames := 2, cells := 0, slots := 0, locals := 49 } : Room)).room s m args below meth c H locs 0 0 (MQ below (zQl D cy ad L K len r M s.heap.size) args s 0 0 (zA ad L s.heap.size)) (F0 m 15 ls [])) (h : f_X4_ofRank_64 N K len kh15 x0 x1 x2 x4 x6 M = some r) {H : Heap} {locs : List Loc} {ls : Array Slot} (hW : zWd D cy ad L K len M H) (hS : va_S (zA ad L s.heap.size) s.heap H locs) (hl : lv_has ls 9 [(0, .ref (ad x0)), (1, .int x1), (2, .long x2), (4, .long x4), (6, .int x6)]) : W p l e (headSpec wsX4_ofRank ({ frames := 2, cells := 0, slots := 0, locals := 49 } : Room)).room s m args below meth c H locs 0 0 (MQ below (zQl D cy ad L K len r M s.heap.size) args s 0 0 (zA ad L s.heap.size)) (F0 m 64 ls []) := by
  obtain ⟨hx, hb, hr, hml, hown, hts, hlocks, hK, hL, hE⟩ := id C0
  unfold f_X4_ofRank_64 at h
  refine lv_iinc (k := 4) (v := (x6 + 1)) (lv' := [(6, .int (x6 + 1)), (0, .ref (ad x0)), (1, .int x1), (2, .long x2), (4, .long x4)]) hx hb dX4_ofRank_64 hl rfl (by rw [show Int32.ofInt 1 = (1 : Int32) from by decide]) (by decide) rfl (fun ls hl => ?_)
  refine lv_goto (tgt := 15) hx hb dX4_ofRank_67 (by decide) ?_
  exact hk15 h hW hS (lv_sub hl [1, 2, 3, 4, 0] rfl)
def f_X4_ofRank_15 (N : Nat) (K len : Nat → Nat) : Nat → Nat → Int32 → Int64 → Int64 → Int32 → ZM → Option (Int64)
  | 0, _, _, _, _, _, _ => none
  | n + 1, x0, x1, x2, x4, x6, M =>
    (if (64 : Int32) ≤ x6 then
    some x4
    else
    (if x2 ≤ x4 then
    some x4
    else
    (f_X4_countAbove N K len x0 (x4 + ((x2 - x4) / (2 : Int64))) M).bind fun q3 => (
    zg (K x0 == 5) (
    (if q3 ≤ x1 then
    f_X4_ofRank_64 N K len (fun y0 y1 y2 y4 y6 => f_X4_ofRank_15 N K len  n y0 y1 y2 y4 y6 M) x0 x1 (x4 + ((x2 - x4) / (2 : Int64))) x4 x6 M
    else
    f_X4_ofRank_64 N K len (fun y0 y1 y2 y4 y6 => f_X4_ofRank_15 N K len  n y0 y1 y2 y4 y6 M) x0 x1 x2 ((x4 + ((x2 - x4) / (2 : Int64))) + (1 : Int64)) x6 M)))))
set_option maxRecDepth 100000 in
set_option maxHeartbeats 4000000 in
theorem t_X4_ofRank_15 {p : Program} {l : Launch} {e : Env} {s : State} {m : MethodId} {args : Array Value} {below : List Frame} {meth : Method} {c : Code} {D : va_G} {cy : Nat → ClassId} {ad : Nat → Nat} {L : List Nat} {K len : Nat → Nat} (C0 : zCx p s m c meth args cX4_ofRank 9 wsX4_ofRank RX4 (some .long) D cy ad L K) (N : Nat) {M : ZM} {r : Int64} : ∀ (n : Nat) {x0 : Nat} {x1 : Int32} {x2 : Int64} {x4 : Int64} {x6 : Int32}, f_X4_ofRank_15 N K len n x0 x1 x2 x4 x6 M = some r → ∀ {H : Heap} {locs : List Loc} {ls : Array Slot}, zWd D cy ad L K len M H → va_S (zA ad L s.heap.size) s.heap H locs → lv_has ls 9 [(0, .ref (ad x0)), (1, .int x1), (2, .long x2), (4, .long x4), (6, .int x6)] → W p l e (headSpec wsX4_ofRank ({ frames := 2, cells := 0, slots := 0, locals := 49 } : Room)).room s m args below meth c H locs 0 0 (MQ below (zQl D cy ad L K len r M s.heap.size) args s 0 0 (zA ad L s.heap.size)) (F0 m 15 ls []) := by
  obtain ⟨hx, hb, hr, hml, hown, hts, hlocks, hK, hL, hE⟩ := id C0
  intro n
  induction n with
  | zero =>
    intro x0 x1 x2 x4 x6 h
    cases (show (none : Option (Int64)) = some r from h)
  | succ n ih =>
    intro x0 x1 x2 x4 x6 h H locs ls hW hS hl
    rw [f_X4_ofRank_15] at h
    refine lv_iload hx hb dX4_ofRank_15 (lv_at hl 4 rfl) ?_
    refine lv_bipush (v := 64) hx hb dX4_ofRank_17 (by decide) ?_
    refine lv_icmp_ge (tgt := 70) hx hb dX4_ofRank_19 (by decide) (fun c1 => ?_) (fun c1 => ?_)
    · have h := zip c1 h
      refine lv_lload hx hb dX4_ofRank_70 (lv_at hl 3 rfl) ?_
      exact z_lret hx hb hr hlocks hW hS (Option.some.inj h) rfl dX4_ofRank_72
    · have h := zin c1 h
      refine lv_lload hx hb dX4_ofRank_22 (lv_at hl 3 rfl) ?_
      refine lv_lload_n hx hb dX4_ofRank_24 rfl (lv_at hl 2 rfl) ?_
      refine z_lc_ge (tgt := 70) hx hb dX4_ofRank_25 dX4_ofRank_26 (by decide) (fun c2 => ?_) (fun c2 => ?_)
      · have h := zip c2 h
        refine lv_lload hx hb dX4_ofRank_70 (lv_at hl 3 rfl) ?_
        exact z_lret hx hb hr hlocks hW hS (Option.some.inj h) rfl dX4_ofRank_72
      · have h := zin c2 h
        refine lv_lload hx hb dX4_ofRank_29 (lv_at hl 3 rfl) ?_
        refine lv_lload_n hx hb dX4_ofRank_31 rfl (lv_at hl 2 rfl) ?_
        refine lv_lload hx hb dX4_ofRank_32 (lv_at hl 3 rfl) ?_
        refine lv_lsub hx hb dX4_ofRank_34 ?_
        refine lv_ldc2 hx hb hown (hts (.constantLong RX4 43 (2)) (by decide +kernel)) dX4_ofRank_35 ?_
        refine lv_ldiv hx hb dX4_ofRank_38 (by decide) ?_
        refine lv_ladd hx hb dX4_ofRank_39 ?_
        refine lv_lstore (lv' := [(7, .long (x4 + ((x2 - x4) / (2 : Int64)))), (0, .ref (ad x0)), (1, .int x1), (2, .long x2), (4, .long x4), (6, .int x6)]) hx hb dX4_ofRank_40 hl (by decide) rfl (fun ls hl => ?_)
        refine lv_aload_n hx hb dX4_ofRank_42 rfl (lv_at hl 1 rfl) ?_
        refine lv_lload hx hb dX4_ofRank_43 (lv_at hl 0 rfl) ?_
        obtain ⟨q3, e4, h⟩ := zb_some h
        obtain ⟨g5, h⟩ := zg_some h
        refine z_calli hS (va_runV (As := [.long (x4 + ((x2 - x4) / (2 : Int64)))]) (rest := []) ⟨hx, hb, hml, hown, hts⟩ (m_X4_countAbove l hL N e4 H.size) (cwV 1 hts gX4_ofRank_X4_countAbove rfl rfl rfl (by decide +kernel) ⟨Nat.le_of_ble_eq_true rfl, Nat.le_of_ble_eq_true rfl⟩) (z_preV (q := (RX4, TX4, 3)) hK hL hE hW hS (zK_of g5) (by decide) rfl [.long (x4 + ((x2 - x4) / (2 : Int64)))]) rfl rfl hl.1 rfl (lv_room (Nat.le_of_ble_eq_true rfl)) dX4_ofRank_45 ⟨Nat.le_of_ble_eq_true rfl, Nat.le_of_ble_eq_true rfl⟩) (fun H locs hW hS => ?_)
        refine lv_iload_n hx hb dX4_ofRank_48 rfl (lv_at hl 2 rfl) ?_
        refine lv_icmp_le (tgt := 61) hx hb dX4_ofRank_49 (by decide) (fun c6 => ?_) (fun c6 => ?_)
        · have h := zip c6 h
          refine lv_lload hx hb dX4_ofRank_61 (lv_at hl 0 rfl) ?_
          refine lv_lstore_n (lv' := [(2, .long (x4 + ((x2 - x4) / (2 : Int64)))), (7, .long (x4 + ((x2 - x4) / (2 : Int64)))), (0, .ref (ad x0)), (1, .int x1), (4, .long x4), (6, .int x6)]) hx hb dX4_ofRank_63 rfl hl (by decide) rfl (fun ls hl => ?_)
          exact t_X4_ofRank_64 C0 N (fun h _ _ _ hW hS hl => ih h hW hS hl) h hW hS (lv_sub hl [2, 3, 0, 4, 5] rfl)
        · have h := zin c6 h
          refine lv_lload hx hb dX4_ofRank_52 (lv_at hl 0 rfl) ?_
          refine lv_lconst (v := 1) hx hb dX4_ofRank_54 (by decide) ?_
          refine lv_ladd hx hb dX4_ofRank_55 ?_
          refine lv_lstore (lv' := [(4, .long ((x4 + ((x2 - x4) / (2 : Int64))) + (1 : Int64))), (7, .long (x4 + ((x2 - x4) / (2 : Int64)))), (0, .ref (ad x0)), (1, .int x1), (2, .long x2), (6, .int x6)]) hx hb dX4_ofRank_56 hl (by decide) rfl (fun ls hl => ?_)
          refine lv_goto (tgt := 64) hx hb dX4_ofRank_58 (by decide) ?_
          exact t_X4_ofRank_64 C0 N (fun h _ _ _ hW hS hl => ih h hW hS hl) h hW hS (lv_sub hl [2, 3, 4, 0, 5] rfl)
def f_X4_ofRank_0 (N : Nat) (K len : Nat → Nat) (x0 : Nat) (x1 : Int32) (M : ZM) : Option (Int64) :=
(f_X4_greatest N K len x0 M).bind fun q1 => (
zg (K x0 == 5) (
(f_X4_least N K len x0 q1 M).bind fun q4 => (
f_X4_ofRank_15 N K len  N x0 x1 q1 q4 (0 : Int32) M)))
set_option maxRecDepth 100000 in
set_option maxHeartbeats 4000000 in
theorem t_X4_ofRank_0 {p : Program} {l : Launch} {e : Env} {s : State} {m : MethodId} {args : Array Value} {below : List Frame} {meth : Method} {c : Code} {D : va_G} {cy : Nat → ClassId} {ad : Nat → Nat} {L : List Nat} {K len : Nat → Nat} (C0 : zCx p s m c meth args cX4_ofRank 9 wsX4_ofRank RX4 (some .long) D cy ad L K) (N : Nat) {x0 : Nat} {x1 : Int32} {M : ZM} {r : Int64} (h : f_X4_ofRank_0 N K len x0 x1 M = some r) {H : Heap} {locs : List Loc} {ls : Array Slot} (hW : zWd D cy ad L K len M H) (hS : va_S (zA ad L s.heap.size) s.heap H locs) (hl : lv_has ls 9 [(0, .ref (ad x0)), (1, .int x1)]) : W p l e (headSpec wsX4_ofRank ({ frames := 2, cells := 0, slots := 0, locals := 49 } : Room)).room s m args below meth c H locs 0 0 (MQ below (zQl D cy ad L K len r M s.heap.size) args s 0 0 (zA ad L s.heap.size)) (F0 m 0 ls []) := by
  obtain ⟨hx, hb, hr, hml, hown, hts, hlocks, hK, hL, hE⟩ := id C0
  unfold f_X4_ofRank_0 at h
  refine lv_aload_n hx hb dX4_ofRank_0 rfl (lv_at hl 0 rfl) ?_
  obtain ⟨q1, e2, h⟩ := zb_some h
  obtain ⟨g3, h⟩ := zg_some h
  refine z_calll hS (va_runV (As := []) (rest := []) ⟨hx, hb, hml, hown, hts⟩ (m_X4_greatest l hL N e2 H.size) (cwV 0 hts gX4_ofRank_X4_greatest rfl rfl rfl (by decide +kernel) ⟨Nat.le_of_ble_eq_true rfl, Nat.le_of_ble_eq_true rfl⟩) (z_preV (q := (RX4, TX4, 3)) hK hL hE hW hS (zK_of g3) (by decide) rfl []) rfl rfl hl.1 rfl (lv_room (Nat.le_of_ble_eq_true rfl)) dX4_ofRank_1 ⟨Nat.le_of_ble_eq_true rfl, Nat.le_of_ble_eq_true rfl⟩) (fun H locs hW hS => ?_)
  refine lv_lstore_n (lv' := [(2, .long q1), (0, .ref (ad x0)), (1, .int x1)]) hx hb dX4_ofRank_4 rfl hl (by decide) rfl (fun ls hl => ?_)
  refine lv_aload_n hx hb dX4_ofRank_5 rfl (lv_at hl 1 rfl) ?_
  refine lv_lload_n hx hb dX4_ofRank_6 rfl (lv_at hl 0 rfl) ?_
  obtain ⟨q4, e5, h⟩ := zb_some h
  refine z_calll hS (va_runV (As := [.long q1]) (rest := []) ⟨hx, hb, hml, hown, hts⟩ (m_X4_least l hL N e5 H.size) (cwV 1 hts gX4_ofRank_X4_least rfl rfl rfl (by decide +kernel) ⟨Nat.le_of_ble_eq_true rfl, Nat.le_of_ble_eq_true rfl⟩) (z_preV (q := (RX4, TX4, 3)) hK hL hE hW hS (zK_of g3) (by decide) rfl [.long q1]) rfl rfl hl.1 rfl (lv_room (Nat.le_of_ble_eq_true rfl)) dX4_ofRank_7 ⟨Nat.le_of_ble_eq_true rfl, Nat.le_of_ble_eq_true rfl⟩) (fun H locs hW hS => ?_)
  refine lv_lstore (lv' := [(4, .long q4), (2, .long q1), (0, .ref (ad x0)), (1, .int x1)]) hx hb dX4_ofRank_10 hl (by decide) rfl (fun ls hl => ?_)
  refine lv_iconst (v := 0) hx hb dX4_ofRank_12 (by decide) ?_
  refine lv_istore (lv' := [(6, .int (0 : Int32)), (4, .long q4), (2, .long q1), (0, .ref (ad x0)), (1, .int x1)]) hx hb dX4_ofRank_13 hl (by decide) rfl (fun ls hl => ?_)
  exact t_X4_ofRank_15 C0 N  N h hW hS (lv_sub hl [3, 4, 2, 1, 0] rfl)
def f_X4_ofRank (N : Nat) (K len : Nat → Nat) (a0 : Nat) (a1 : Int32) (M : ZM) : Option (Int64) := f_X4_ofRank_0 N K len a0 a1 M
set_option maxRecDepth 100000 in
set_option maxHeartbeats 4000000 in
theorem m_X4_ofRank (l : Launch) {D : va_G} {cy : Nat → ClassId} {ad : Nat → Nat} {L : List Nat} {K len : Nat → Nat} (hL : zSh ad L K) (N : Nat) {a0 : Nat} {a1 : Int32} {M : ZM} {r : Int64} (h : f_X4_ofRank N K len a0 a1 M = some r) (sz : Nat) : Met l yX4_ofRank wsX4_ofRank ({ frames := 2, cells := 0, slots := 0, locals := 49 } : Room) (zPre D cy ad L K len sz [.ref (ad a0), .int a1] M) (zQl D cy ad L K len r M sz) 0 0 (zA ad L sz) :=
  z_entry (Qf := fun sz => zQl D cy ad L K len r M sz) (av := [.ref (ad a0), .int a1]) (by decide) rfl rfl hL (Nat.le_of_ble_eq_true rfl) (fun p e s m args below meth c C0 H locs ls hW hS hl => t_X4_ofRank_0 C0 N h hW hS (lv_sub hl [0, 1] rfl))
def f_X4_note_0 (N : Nat) (K len : Nat → Nat) (x0 : Nat) (x1 : Int64) (M : ZM) : Option (ZM) :=
zg (K x0 == 5) (
(if (zI M x0 2) < 0 then
some M
else
(zR M x0 0).bind fun b3 => (
zg (11 ≤ K b3 && K b3 ≤ 17) (
(if (Int32.ofNat (len b3)) ≤ (zI M x0 2) then
some M
else
zg (zok K len b3 12 (zI M x0 2)) (
zl (zsJ M b3 (zI M x0 2).toNatClampNeg x1) fun M8 => (
zl (zsI M8 x0 2 ((zI M8 x0 2) + (1 : Int32))) fun M10 => (
some M10))))))))
set_option maxRecDepth 100000 in
set_option maxHeartbeats 4000000 in
theorem t_X4_note_0 {p : Program} {l : Launch} {e : Env} {s : State} {m : MethodId} {args : Array Value} {below : List Frame} {meth : Method} {c : Code} {D : va_G} {cy : Nat → ClassId} {ad : Nat → Nat} {L : List Nat} {K len : Nat → Nat} (C0 : zCx p s m c meth args cX4_note 3 wsX4_note RX4 none D cy ad L K) (N : Nat) {x0 : Nat} {x1 : Int64} {M : ZM} {Mr : ZM} (h : f_X4_note_0 N K len x0 x1 M = some Mr) {H : Heap} {locs : List Loc} {ls : Array Slot} (hW : zWd D cy ad L K len M H) (hS : va_S (zA ad L s.heap.size) s.heap H locs) (hl : lv_has ls 3 [(0, .ref (ad x0)), (1, .long x1)]) : W p l e (headSpec wsX4_note ({ frames := 0, cells := 0, slots := 0, locals := 0 } : Room)).room s m args below meth c H locs 0 0 (MQ below (zQv D cy ad L K len Mr s.heap.size) args s 0 0 (zA ad L s.heap.size)) (F0 m 0 ls []) := by
  obtain ⟨hx, hb, hr, hml, hown, hts, hlocks, hK, hL, hE⟩ := id C0
  have hinX4 : ∀ w ∈ wsX40, w ∈ wsX4_note := by decide +kernel
  unfold f_X4_note_0 at h
  refine lv_aload_n hx hb dX4_note_0 rfl (lv_at hl 0 rfl) ?_
  obtain ⟨g1, h⟩ := zg_some h
  refine z_get (own := RX4) (C := RX4) (T := TX4) (N := 3) (ci := 4) hx hb hts hinX4 hown hK hL hW 2 (zK_of g1) rfl (by decide) (by decide) rfl (hts (.fieldLink RX4 19 "ArcLight$Trial" "found" "I") (by decide +kernel)) (v := .int (zI M x0 2)) rfl dX4_note_1 ?_
  refine lv_if_lt (tgt := 39) hx hb dX4_note_4 (by decide) (fun c2 => ?_) (fun c2 => ?_)
  · have h := zip c2 h
    exact z_vret hx hb hr hlocks hW hS (Option.some.inj h) dX4_note_39
  · have h := zin c2 h
    refine lv_aload_n hx hb dX4_note_7 rfl (lv_at hl 0 rfl) ?_
    refine z_get (own := RX4) (C := RX4) (T := TX4) (N := 3) (ci := 4) hx hb hts hinX4 hown hK hL hW 2 (zK_of g1) rfl (by decide) (by decide) rfl (hts (.fieldLink RX4 19 "ArcLight$Trial" "found" "I") (by decide +kernel)) (v := .int (zI M x0 2)) rfl dX4_note_8 ?_
    refine lv_aload_n hx hb dX4_note_11 rfl (lv_at hl 0 rfl) ?_
    obtain ⟨b3, e4, h⟩ := zb_some h
    refine z_get (own := RX4) (C := RX4) (T := TX4) (N := 3) (ci := 4) hx hb hts hinX4 hown hK hL hW 0 (zK_of g1) rfl (by decide) (by decide) rfl (hts (.fieldLink RX4 9 "ArcLight$Trial" "keys" "[J") (by decide +kernel)) (v := .ref (ad b3)) (zhvR e4 rfl) dX4_note_12 ?_
    obtain ⟨g5, h⟩ := zg_some h
    refine z_alen hx hb hK hL hW g5 dX4_note_15 ?_
    refine lv_icmp_ge (tgt := 39) hx hb dX4_note_16 (by decide) (fun c6 => ?_) (fun c6 => ?_)
    · have h := zip c6 h
      exact z_vret hx hb hr hlocks hW hS (Option.some.inj h) dX4_note_39
    · have h := zin c6 h
      refine lv_aload_n hx hb dX4_note_19 rfl (lv_at hl 0 rfl) ?_
      refine z_get (own := RX4) (C := RX4) (T := TX4) (N := 3) (ci := 4) hx hb hts hinX4 hown hK hL hW 0 (zK_of g1) rfl (by decide) (by decide) rfl (hts (.fieldLink RX4 9 "ArcLight$Trial" "keys" "[J") (by decide +kernel)) (v := .ref (ad b3)) (zhvR e4 rfl) dX4_note_20 ?_
      refine lv_aload_n hx hb dX4_note_23 rfl (lv_at hl 0 rfl) ?_
      refine z_get (own := RX4) (C := RX4) (T := TX4) (N := 3) (ci := 4) hx hb hts hinX4 hown hK hL hW 2 (zK_of g1) rfl (by decide) (by decide) rfl (hts (.fieldLink RX4 19 "ArcLight$Trial" "found" "I") (by decide +kernel)) (v := .int (zI M x0 2)) rfl dX4_note_24 ?_
      refine lv_lload_n hx hb dX4_note_27 rfl (lv_at hl 1 rfl) ?_
      obtain ⟨g7, h⟩ := zg_some h
      refine z_last hx hb hK hL hW hS g7 dX4_note_28 (fun H locs hW hS => ?_)
      obtain ⟨M8, eM9, h⟩ := zl_some h
      rw [← eM9] at hW
      refine lv_aload_n hx hb dX4_note_29 rfl (lv_at hl 0 rfl) ?_
      refine lv_dup hx hb dX4_note_30 rfl ?_
      refine z_get (own := RX4) (C := RX4) (T := TX4) (N := 3) (ci := 4) hx hb hts hinX4 hown hK hL hW 2 (zK_of g1) rfl (by decide) (by decide) rfl (hts (.fieldLink RX4 19 "ArcLight$Trial" "found" "I") (by decide +kernel)) (v := .int (zI M8 x0 2)) rfl dX4_note_31 ?_
      refine lv_iconst (v := 1) hx hb dX4_note_34 (by decide) ?_
      refine lv_iadd hx hb dX4_note_35 ?_
      refine z_put (own := RX4) (C := RX4) (T := TX4) (N := 3) (ci := 4) (v := .int ((zI M8 x0 2) + (1 : Int32))) (M' := zsI M8 x0 2 ((zI M8 x0 2) + (1 : Int32))) hx hb hts hinX4 tyX4 tyX4_ok nmX4 hown hK hL hW hS 2 (zK_of g1) rfl (by decide) (by decide) rfl (hts (.fieldLink RX4 19 "ArcLight$Trial" "found" "I") (by decide +kernel)) rfl (ty := .int) (by decide +kernel) rfl rfl (Nat.le_of_ble_eq_true rfl) dX4_note_36 (zM_I (zK_of g1) (by decide) rfl) (fun H locs hW hS => ?_)
      obtain ⟨M10, eM11, h⟩ := zl_some h
      rw [← eM11] at hW
      exact z_vret hx hb hr hlocks hW hS (Option.some.inj h) dX4_note_39
def f_X4_note (N : Nat) (K len : Nat → Nat) (a0 : Nat) (a1 : Int64) (M : ZM) : Option (ZM) := f_X4_note_0 N K len a0 a1 M
set_option maxRecDepth 100000 in
set_option maxHeartbeats 4000000 in
theorem m_X4_note (l : Launch) {D : va_G} {cy : Nat → ClassId} {ad : Nat → Nat} {L : List Nat} {K len : Nat → Nat} (hL : zSh ad L K) (N : Nat) {a0 : Nat} {a1 : Int64} {M : ZM} {Mr : ZM} (h : f_X4_note N K len a0 a1 M = some Mr) (sz : Nat) : Met l yX4_note wsX4_note ({ frames := 0, cells := 0, slots := 0, locals := 0 } : Room) (zPre D cy ad L K len sz [.ref (ad a0), .long a1] M) (zQv D cy ad L K len Mr sz) 0 0 (zA ad L sz) :=
  z_entry (Qf := fun sz => zQv D cy ad L K len Mr sz) (av := [.ref (ad a0), .long a1]) (by decide) rfl rfl hL (Nat.le_of_ble_eq_true rfl) (fun p e s m args below meth c C0 H locs ls hW hS hl => t_X4_note_0 C0 N h hW hS (lv_sub hl [0, 1] rfl))
def f_X4_closesCircle_47 (N : Nat) (K len : Nat → Nat) (x2 : Int32) (x3 : Int32) (M : ZM) : Option (Int32) :=
(if x3 = x2 then
some (1 : Int32)
else
some (0 : Int32))
set_option maxRecDepth 100000 in
set_option maxHeartbeats 4000000 in
theorem t_X4_closesCircle_47 {p : Program} {l : Launch} {e : Env} {s : State} {m : MethodId} {args : Array Value} {below : List Frame} {meth : Method} {c : Code} {D : va_G} {cy : Nat → ClassId} {ad : Nat → Nat} {L : List Nat} {K len : Nat → Nat} (C0 : zCx p s m c meth args cX4_closesCircle 5 wsX4_closesCircle RX4 (some .boolean) D cy ad L K) (N : Nat) {x2 : Int32} {x3 : Int32} {M : ZM} {r : Int32} (h : f_X4_closesCircle_47 N K len x2 x3 M = some r) {H : Heap} {locs : List Loc} {ls : Array Slot} (hW : zWd D cy ad L K len M H) (hS : va_S (zA ad L s.heap.size) s.heap H locs) (hl : lv_has ls 5 [(2, .int x2), (3, .int x3)]) : W p l e (headSpec wsX4_closesCircle ({ frames := 0, cells := 0, slots := 0, locals := 0 } : Room)).room s m args below meth c H locs 0 0 (MQ below (zQi D cy ad L K len r M s.heap.size) args s 0 0 (zA ad L s.heap.size)) (F0 m 47 ls []) := by
  obtain ⟨hx, hb, hr, hml, hown, hts, hlocks, hK, hL, hE⟩ := id C0
  unfold f_X4_closesCircle_47 at h
  refine lv_iload_n hx hb dX4_closesCircle_47 rfl (lv_at hl 1 rfl) ?_
  refine lv_iload_n hx hb dX4_closesCircle_48 rfl (lv_at hl 0 rfl) ?_
  refine lv_icmp_ne (tgt := 56) hx hb dX4_closesCircle_49 (by decide) (fun c1 => ?_) (fun c1 => ?_)
  · have h := zin c1 h
    refine lv_iconst (v := 0) hx hb dX4_closesCircle_56 (by decide) ?_
    exact z_zret hx hb hr hlocks hW hS (by decide) (Option.some.inj h) rfl dX4_closesCircle_57
  · have h := zip c1 h
    refine lv_iconst (v := 1) hx hb dX4_closesCircle_52 (by decide) ?_
    refine lv_goto (tgt := 57) hx hb dX4_closesCircle_53 (by decide) ?_
    exact z_zret hx hb hr hlocks hW hS (by decide) (Option.some.inj h) rfl dX4_closesCircle_57
def f_X4_closesCircle_40 (N : Nat) (K len : Nat → Nat) (kh5 : Nat → Int32 → Int32 → Int32 → Option (Int32)) (x0 : Nat) (x2 : Int32) (x4 : Int32) (s0 : Int32) (M : ZM) : Option (Int32) :=
kh5 x0 x2 s0 (x4 + 1)
set_option maxRecDepth 100000 in
set_option maxHeartbeats 4000000 in
theorem t_X4_closesCircle_40 {p : Program} {l : Launch} {e : Env} {s : State} {m : MethodId} {args : Array Value} {below : List Frame} {meth : Method} {c : Code} {D : va_G} {cy : Nat → ClassId} {ad : Nat → Nat} {L : List Nat} {K len : Nat → Nat} (C0 : zCx p s m c meth args cX4_closesCircle 5 wsX4_closesCircle RX4 (some .boolean) D cy ad L K) (N : Nat) {kh5 : Nat → Int32 → Int32 → Int32 → Option (Int32)} {x0 : Nat} {x2 : Int32} {x4 : Int32} {s0 : Int32} {M : ZM} {r : Int32} (hk5 : ∀ {y0 : Nat} {y2 : Int32} {y3 : Int32} {y4 : Int32}, kh5 y0 y2 y3 y4 = some r → ∀ {H : Heap} {locs : List Loc} {ls : Array Slot}, zWd D cy ad L K len M H → va_S (zA ad L s.heap.size) s.heap H locs → lv_has ls 5 [(0, .ref (ad y0)), (2, .int y2), (3, .int y3), (4, .int y4)] → W p l e (headSpec wsX4_closesCircle ({ frames := 0, cells := 0, slots := 0, locals := 0 } : Room)).room s m args below meth c H locs 0 0 (MQ below (zQi D cy ad L K len r M s.heap.size) args s 0 0 (zA ad L s.heap.size)) (F0 m 5 ls [])) (h : f_X4_closesCircle_40 N K len kh5 x0 x2 x4 s0 M = some r) {H : Heap} {locs : List Loc} {ls : Array Slot} (hW : zWd D cy ad L K len M H) (hS : va_S (zA ad L s.heap.size) s.heap H locs) (hl : lv_has ls 5 [(0, .ref (ad x0)), (2, .int x2), (4, .int x4)]) : W p l e (headSpec wsX4_closesCircle ({ frames := 0, cells := 0, slots := 0, locals := 0 } : Room)).room s m args below meth c H locs 0 0 (MQ below (zQi D cy ad L K len r M s.heap.size) args s 0 0 (zA ad L s.heap.size)) (F0 m 40 ls [.int s0]) := by
  obtain ⟨hx, hb, hr, hml, hown, hts, hlocks, hK, hL, hE⟩ := id C0
  unfold f_X4_closesCircle_40 at h
  refine lv_istore_n (lv' := [(3, .int s0), (0, .ref (ad x0)), (2, .int x2), (4, .int x4)]) hx hb dX4_closesCircle_40 rfl hl (by decide) rfl (fun ls hl => ?_)
  refine lv_iinc (k := 3) (v := (x4 + 1)) (lv' := [(4, .int (x4 + 1)), (3, .int s0), (0, .ref (ad x0)), (2, .int x2)]) hx hb dX4_closesCircle_41 hl rfl (by rw [show Int32.ofInt 1 = (1 : Int32) from by decide]) (by decide) rfl (fun ls hl => ?_)
  refine lv_goto (tgt := 5) hx hb dX4_closesCircle_44 (by decide) ?_
  exact hk5 h hW hS (lv_sub hl [2, 3, 1, 0] rfl)
def f_X4_closesCircle_5 (N : Nat) (K len : Nat → Nat) : Nat → Nat → Int32 → Int32 → Int32 → ZM → Option (Int32)
  | 0, _, _, _, _, _ => none
  | n + 1, x0, x2, x3, x4, M =>
    (if (7 : Int32) ≤ x4 then
    f_X4_closesCircle_47 N K len  x2 x3 M
    else
    (if x3 ≤ 0 then
    f_X4_closesCircle_47 N K len  x2 x3 M
    else
    (if x2 ≤ x3 then
    f_X4_closesCircle_47 N K len  x2 x3 M
    else
    zg (K x0 == 5) (
    (zR M x0 1).bind fun b5 => (
    zg (11 ≤ K b5 && K b5 ≤ 17) (
    (if (Int32.ofNat (len b5)) ≤ x3 then
    f_X4_closesCircle_40 N K len (fun y0 y2 y3 y4 => f_X4_closesCircle_5 N K len  n y0 y2 y3 y4 M) x0 x2 x4 (0 : Int32) M
    else
    zg (zok K len b5 11 x3) (
    f_X4_closesCircle_40 N K len (fun y0 y2 y3 y4 => f_X4_closesCircle_5 N K len  n y0 y2 y3 y4 M) x0 x2 x4 (zI M b5 x3.toNatClampNeg) M))))))))
set_option maxRecDepth 100000 in
set_option maxHeartbeats 4000000 in
theorem t_X4_closesCircle_5 {p : Program} {l : Launch} {e : Env} {s : State} {m : MethodId} {args : Array Value} {below : List Frame} {meth : Method} {c : Code} {D : va_G} {cy : Nat → ClassId} {ad : Nat → Nat} {L : List Nat} {K len : Nat → Nat} (C0 : zCx p s m c meth args cX4_closesCircle 5 wsX4_closesCircle RX4 (some .boolean) D cy ad L K) (N : Nat) {M : ZM} {r : Int32} : ∀ (n : Nat) {x0 : Nat} {x2 : Int32} {x3 : Int32} {x4 : Int32}, f_X4_closesCircle_5 N K len n x0 x2 x3 x4 M = some r → ∀ {H : Heap} {locs : List Loc} {ls : Array Slot}, zWd D cy ad L K len M H → va_S (zA ad L s.heap.size) s.heap H locs → lv_has ls 5 [(0, .ref (ad x0)), (2, .int x2), (3, .int x3), (4, .int x4)] → W p l e (headSpec wsX4_closesCircle ({ frames := 0, cells := 0, slots := 0, locals := 0 } : Room)).room s m args below meth c H locs 0 0 (MQ below (zQi D cy ad L K len r M s.heap.size) args s 0 0 (zA ad L s.heap.size)) (F0 m 5 ls []) := by
  obtain ⟨hx, hb, hr, hml, hown, hts, hlocks, hK, hL, hE⟩ := id C0
  have hinX4 : ∀ w ∈ wsX40, w ∈ wsX4_closesCircle := by decide +kernel
  intro n
  induction n with
  | zero =>
    intro x0 x2 x3 x4 h
    cases (show (none : Option (Int32)) = some r from h)
  | succ n ih =>
    intro x0 x2 x3 x4 h H locs ls hW hS hl
    rw [f_X4_closesCircle_5] at h
    refine lv_iload hx hb dX4_closesCircle_5 (lv_at hl 3 rfl) ?_
    refine lv_bipush (v := 7) hx hb dX4_closesCircle_7 (by decide) ?_
    refine lv_icmp_ge (tgt := 47) hx hb dX4_closesCircle_9 (by decide) (fun c1 => ?_) (fun c1 => ?_)
    · have h := zip c1 h
      exact t_X4_closesCircle_47 C0 N  h hW hS (lv_sub hl [1, 2] rfl)
    · have h := zin c1 h
      refine lv_iload_n hx hb dX4_closesCircle_12 rfl (lv_at hl 2 rfl) ?_
      refine lv_if_le (tgt := 47) hx hb dX4_closesCircle_13 (by decide) (fun c2 => ?_) (fun c2 => ?_)
      · have h := zip c2 h
        exact t_X4_closesCircle_47 C0 N  h hW hS (lv_sub hl [1, 2] rfl)
      · have h := zin c2 h
        refine lv_iload_n hx hb dX4_closesCircle_16 rfl (lv_at hl 2 rfl) ?_
        refine lv_iload_n hx hb dX4_closesCircle_17 rfl (lv_at hl 1 rfl) ?_
        refine lv_icmp_ge (tgt := 47) hx hb dX4_closesCircle_18 (by decide) (fun c3 => ?_) (fun c3 => ?_)
        · have h := zip c3 h
          exact t_X4_closesCircle_47 C0 N  h hW hS (lv_sub hl [1, 2] rfl)
        · have h := zin c3 h
          refine lv_iload_n hx hb dX4_closesCircle_21 rfl (lv_at hl 2 rfl) ?_
          refine lv_aload_n hx hb dX4_closesCircle_22 rfl (lv_at hl 0 rfl) ?_
          obtain ⟨g4, h⟩ := zg_some h
          obtain ⟨b5, e6, h⟩ := zb_some h
          refine z_get (own := RX4) (C := RX4) (T := TX4) (N := 3) (ci := 4) hx hb hts hinX4 hown hK hL hW 1 (zK_of g4) rfl (by decide) (by decide) rfl (hts (.fieldLink RX4 15 "ArcLight$Trial" "heads" "[I") (by decide +kernel)) (v := .ref (ad b5)) (zhvR e6 rfl) dX4_closesCircle_23 ?_
          obtain ⟨g7, h⟩ := zg_some h
          refine z_alen hx hb hK hL hW g7 dX4_closesCircle_26 ?_
          refine lv_icmp_ge (tgt := 39) hx hb dX4_closesCircle_27 (by decide) (fun c8 => ?_) (fun c8 => ?_)
          · have h := zip c8 h
            refine lv_iconst (v := 0) hx hb dX4_closesCircle_39 (by decide) ?_
            exact t_X4_closesCircle_40 C0 N (fun h _ _ _ hW hS hl => ih h hW hS hl) h hW hS (lv_sub hl [0, 1, 3] rfl)
          · have h := zin c8 h
            refine lv_aload_n hx hb dX4_closesCircle_30 rfl (lv_at hl 0 rfl) ?_
            refine z_get (own := RX4) (C := RX4) (T := TX4) (N := 3) (ci := 4) hx hb hts hinX4 hown hK hL hW 1 (zK_of g4) rfl (by decide) (by decide) rfl (hts (.fieldLink RX4 15 "ArcLight$Trial" "heads" "[I") (by decide +kernel)) (v := .ref (ad b5)) (zhvR e6 rfl) dX4_closesCircle_31 ?_
            refine lv_iload_n hx hb dX4_closesCircle_34 rfl (lv_at hl 2 rfl) ?_
            obtain ⟨g9, h⟩ := zg_some h
            refine z_iald hx hb hK hL hW g9 dX4_closesCircle_35 ?_
            refine lv_goto (tgt := 40) hx hb dX4_closesCircle_36 (by decide) ?_
            exact t_X4_closesCircle_40 C0 N (fun h _ _ _ hW hS hl => ih h hW hS hl) h hW hS (lv_sub hl [0, 1, 3] rfl)
def f_X4_closesCircle_0 (N : Nat) (K len : Nat → Nat) (x0 : Nat) (x1 : Int32) (x2 : Int32) (M : ZM) : Option (Int32) :=
f_X4_closesCircle_5 N K len  N x0 x2 x1 (0 : Int32) M
set_option maxRecDepth 100000 in
set_option maxHeartbeats 4000000 in
theorem t_X4_closesCircle_0 {p : Program} {l : Launch} {e : Env} {s : State} {m : MethodId} {args : Array Value} {below : List Frame} {meth : Method} {c : Code} {D : va_G} {cy : Nat → ClassId} {ad : Nat → Nat} {L : List Nat} {K len : Nat → Nat} (C0 : zCx p s m c meth args cX4_closesCircle 5 wsX4_closesCircle RX4 (some .boolean) D cy ad L K) (N : Nat) {x0 : Nat} {x1 : Int32} {x2 : Int32} {M : ZM} {r : Int32} (h : f_X4_closesCircle_0 N K len x0 x1 x2 M = some r) {H : Heap} {locs : List Loc} {ls : Array Slot} (hW : zWd D cy ad L K len M H) (hS : va_S (zA ad L s.heap.size) s.heap H locs) (hl : lv_has ls 5 [(0, .ref (ad x0)), (1, .int x1), (2, .int x2)]) : W p l e (headSpec wsX4_closesCircle ({ frames := 0, cells := 0, slots := 0, locals := 0 } : Room)).room s m args below meth c H locs 0 0 (MQ below (zQi D cy ad L K len r M s.heap.size) args s 0 0 (zA ad L s.heap.size)) (F0 m 0 ls []) := by
  obtain ⟨hx, hb, hr, hml, hown, hts, hlocks, hK, hL, hE⟩ := id C0
  unfold f_X4_closesCircle_0 at h
  refine lv_iload_n hx hb dX4_closesCircle_0 rfl (lv_at hl 1 rfl) ?_
  refine lv_istore_n (lv' := [(3, .int x1), (0, .ref (ad x0)), (1, .int x1), (2, .int x2)]) hx hb dX4_closesCircle_1 rfl hl (by decide) rfl (fun ls hl => ?_)
  refine lv_iconst (v := 0) hx hb dX4_closesCircle_2 (by decide) ?_
  refine lv_istore (lv' := [(4, .int (0 : Int32)), (3, .int x1), (0, .ref (ad x0)), (1, .int x1), (2, .int x2)]) hx hb dX4_closesCircle_3 hl (by decide) rfl (fun ls hl => ?_)
  exact t_X4_closesCircle_5 C0 N  N h hW hS (lv_sub hl [2, 4, 1, 0] rfl)
def f_X4_closesCircle (N : Nat) (K len : Nat → Nat) (a0 : Nat) (a1 : Int32) (a2 : Int32) (M : ZM) : Option (Int32) := f_X4_closesCircle_0 N K len a0 a1 a2 M
set_option maxRecDepth 100000 in
set_option maxHeartbeats 4000000 in
theorem m_X4_closesCircle (l : Launch) {D : va_G} {cy : Nat → ClassId} {ad : Nat → Nat} {L : List Nat} {K len : Nat → Nat} (hL : zSh ad L K) (N : Nat) {a0 : Nat} {a1 : Int32} {a2 : Int32} {M : ZM} {r : Int32} (h : f_X4_closesCircle N K len a0 a1 a2 M = some r) (sz : Nat) : Met l yX4_closesCircle wsX4_closesCircle ({ frames := 0, cells := 0, slots := 0, locals := 0 } : Room) (zPre D cy ad L K len sz [.ref (ad a0), .int a1, .int a2] M) (zQi D cy ad L K len r M sz) 0 0 (zA ad L sz) :=
  z_entry (Qf := fun sz => zQi D cy ad L K len r M sz) (av := [.ref (ad a0), .int a1, .int a2]) (by decide) rfl rfl hL (Nat.le_of_ble_eq_true rfl) (fun p e s m args below meth c C0 H locs ls hW hS hl => t_X4_closesCircle_0 C0 N h hW hS (lv_sub hl [0, 1, 2] rfl))
def f_X4_crossesEarlier_2 (N : Nat) (K len : Nat → Nat) : Nat → Nat → Int32 → Int32 → Int32 → ZM → Option (Int32)
  | 0, _, _, _, _, _ => none
  | n + 1, x0, x1, x2, x3, M =>
    (if x2 ≤ x3 then
    some (0 : Int32)
    else
    zg (K x0 == 5) (
    (zR M x0 1).bind fun b3 => (
    zg (11 ≤ K b3 && K b3 ≤ 17) (
    (if (Int32.ofNat (len b3)) ≤ x3 then
    some (0 : Int32)
    else
    zg (zok K len b3 11 x3) (
    (f_X6_doCross N x1 x2 (zI M b3 x3.toNatClampNeg) x3).bind fun q8 => (
    (if q8 = 0 then
    f_X4_crossesEarlier_2 N K len  n x0 x1 x2 (x3 + 1) M
    else
    some (1 : Int32)))))))))
set_option maxRecDepth 100000 in
set_option maxHeartbeats 4000000 in
theorem t_X4_crossesEarlier_2 {p : Program} {l : Launch} {e : Env} {s : State} {m : MethodId} {args : Array Value} {below : List Frame} {meth : Method} {c : Code} {D : va_G} {cy : Nat → ClassId} {ad : Nat → Nat} {L : List Nat} {K len : Nat → Nat} (C0 : zCx p s m c meth args cX4_crossesEarlier 4 wsX4_crossesEarlier RX4 (some .boolean) D cy ad L K) (N : Nat) {M : ZM} {r : Int32} : ∀ (n : Nat) {x0 : Nat} {x1 : Int32} {x2 : Int32} {x3 : Int32}, f_X4_crossesEarlier_2 N K len n x0 x1 x2 x3 M = some r → ∀ {H : Heap} {locs : List Loc} {ls : Array Slot}, zWd D cy ad L K len M H → va_S (zA ad L s.heap.size) s.heap H locs → lv_has ls 4 [(0, .ref (ad x0)), (1, .int x1), (2, .int x2), (3, .int x3)] → W p l e (headSpec wsX4_crossesEarlier ({ frames := 2, cells := 0, slots := 0, locals := 51 } : Room)).room s m args below meth c H locs 0 0 (MQ below (zQi D cy ad L K len r M s.heap.size) args s 0 0 (zA ad L s.heap.size)) (F0 m 2 ls []) := by
  obtain ⟨hx, hb, hr, hml, hown, hts, hlocks, hK, hL, hE⟩ := id C0
  have hinX4 : ∀ w ∈ wsX40, w ∈ wsX4_crossesEarlier := by decide +kernel
  intro n
  induction n with
  | zero =>
    intro x0 x1 x2 x3 h
    cases (show (none : Option (Int32)) = some r from h)
  | succ n ih =>
    intro x0 x1 x2 x3 h H locs ls hW hS hl
    rw [f_X4_crossesEarlier_2] at h
    refine lv_iload_n hx hb dX4_crossesEarlier_2 rfl (lv_at hl 3 rfl) ?_
    refine lv_iload_n hx hb dX4_crossesEarlier_3 rfl (lv_at hl 2 rfl) ?_
    refine lv_icmp_ge (tgt := 39) hx hb dX4_crossesEarlier_4 (by decide) (fun c1 => ?_) (fun c1 => ?_)
    · have h := zip c1 h
      refine lv_iconst (v := 0) hx hb dX4_crossesEarlier_39 (by decide) ?_
      exact z_zret hx hb hr hlocks hW hS (by decide) (Option.some.inj h) rfl dX4_crossesEarlier_40
    · have h := zin c1 h
      refine lv_iload_n hx hb dX4_crossesEarlier_7 rfl (lv_at hl 3 rfl) ?_
      refine lv_aload_n hx hb dX4_crossesEarlier_8 rfl (lv_at hl 0 rfl) ?_
      obtain ⟨g2, h⟩ := zg_some h
      obtain ⟨b3, e4, h⟩ := zb_some h
      refine z_get (own := RX4) (C := RX4) (T := TX4) (N := 3) (ci := 4) hx hb hts hinX4 hown hK hL hW 1 (zK_of g2) rfl (by decide) (by decide) rfl (hts (.fieldLink RX4 15 "ArcLight$Trial" "heads" "[I") (by decide +kernel)) (v := .ref (ad b3)) (zhvR e4 rfl) dX4_crossesEarlier_9 ?_
      obtain ⟨g5, h⟩ := zg_some h
      refine z_alen hx hb hK hL hW g5 dX4_crossesEarlier_12 ?_
      refine lv_icmp_ge (tgt := 39) hx hb dX4_crossesEarlier_13 (by decide) (fun c6 => ?_) (fun c6 => ?_)
      · have h := zip c6 h
        refine lv_iconst (v := 0) hx hb dX4_crossesEarlier_39 (by decide) ?_
        exact z_zret hx hb hr hlocks hW hS (by decide) (Option.some.inj h) rfl dX4_crossesEarlier_40
      · have h := zin c6 h
        refine lv_iload_n hx hb dX4_crossesEarlier_16 rfl (lv_at hl 1 rfl) ?_
        refine lv_iload_n hx hb dX4_crossesEarlier_17 rfl (lv_at hl 2 rfl) ?_
        refine lv_aload_n hx hb dX4_crossesEarlier_18 rfl (lv_at hl 0 rfl) ?_
        refine z_get (own := RX4) (C := RX4) (T := TX4) (N := 3) (ci := 4) hx hb hts hinX4 hown hK hL hW 1 (zK_of g2) rfl (by decide) (by decide) rfl (hts (.fieldLink RX4 15 "ArcLight$Trial" "heads" "[I") (by decide +kernel)) (v := .ref (ad b3)) (zhvR e4 rfl) dX4_crossesEarlier_19 ?_
        refine lv_iload_n hx hb dX4_crossesEarlier_22 rfl (lv_at hl 3 rfl) ?_
        obtain ⟨g7, h⟩ := zg_some h
        refine z_iald hx hb hK hL hW g7 dX4_crossesEarlier_23 ?_
        refine lv_iload_n hx hb dX4_crossesEarlier_24 rfl (lv_at hl 3 rfl) ?_
        obtain ⟨q8, e9, h⟩ := zb_some h
        refine z_calli hS (va_runSN (As := [.int x1, .int x2, .int (zI M b3 x3.toNatClampNeg), .int x3]) (rest := []) ⟨hx, hb, hml, hown, hts⟩ (m_X6_doCross l (M := M) hL N e9 H.size) ⟨va_cnB (host := "ArcLight") 4 hts gX4_crossesEarlier_X6_doCross_n73 rfl rfl rfl (hE.1 (.methodLinkNest RX4 73 yX6_doCross "ArcLight") (by decide +kernel)) (hts (.initialized RX6) (by decide +kernel)) (by decide +kernel) ⟨Nat.le_of_ble_eq_true rfl, Nat.le_of_ble_eq_true rfl⟩, hts (.static yX6_doCross) (by decide +kernel), trivial⟩ (z_preS hK hE hW hS [.int x1, .int x2, .int (zI M b3 x3.toNatClampNeg), .int x3]) rfl rfl hl.1 rfl (lv_room (Nat.le_of_ble_eq_true rfl)) dX4_crossesEarlier_25 ⟨Nat.le_of_ble_eq_true rfl, Nat.le_of_ble_eq_true rfl⟩) (fun H locs hW hS => ?_)
        refine lv_if_eq (tgt := 33) hx hb dX4_crossesEarlier_28 (by decide) (fun c10 => ?_) (fun c10 => ?_)
        · have h := zip c10 h
          refine lv_iinc (k := 3) (v := (x3 + 1)) (lv' := [(3, .int (x3 + 1)), (0, .ref (ad x0)), (1, .int x1), (2, .int x2)]) hx hb dX4_crossesEarlier_33 hl rfl (by rw [show Int32.ofInt 1 = (1 : Int32) from by decide]) (by decide) rfl (fun ls hl => ?_)
          refine lv_goto (tgt := 2) hx hb dX4_crossesEarlier_36 (by decide) ?_
          exact ih h hW hS (lv_sub hl [1, 2, 3, 0] rfl)
        · have h := zin c10 h
          refine lv_iconst (v := 1) hx hb dX4_crossesEarlier_31 (by decide) ?_
          exact z_zret hx hb hr hlocks hW hS (by decide) (Option.some.inj h) rfl dX4_crossesEarlier_32
def f_X4_crossesEarlier_0 (N : Nat) (K len : Nat → Nat) (x0 : Nat) (x1 : Int32) (x2 : Int32) (M : ZM) : Option (Int32) :=
f_X4_crossesEarlier_2 N K len  N x0 x1 x2 (1 : Int32) M
set_option maxRecDepth 100000 in
set_option maxHeartbeats 4000000 in
theorem t_X4_crossesEarlier_0 {p : Program} {l : Launch} {e : Env} {s : State} {m : MethodId} {args : Array Value} {below : List Frame} {meth : Method} {c : Code} {D : va_G} {cy : Nat → ClassId} {ad : Nat → Nat} {L : List Nat} {K len : Nat → Nat} (C0 : zCx p s m c meth args cX4_crossesEarlier 4 wsX4_crossesEarlier RX4 (some .boolean) D cy ad L K) (N : Nat) {x0 : Nat} {x1 : Int32} {x2 : Int32} {M : ZM} {r : Int32} (h : f_X4_crossesEarlier_0 N K len x0 x1 x2 M = some r) {H : Heap} {locs : List Loc} {ls : Array Slot} (hW : zWd D cy ad L K len M H) (hS : va_S (zA ad L s.heap.size) s.heap H locs) (hl : lv_has ls 4 [(0, .ref (ad x0)), (1, .int x1), (2, .int x2)]) : W p l e (headSpec wsX4_crossesEarlier ({ frames := 2, cells := 0, slots := 0, locals := 51 } : Room)).room s m args below meth c H locs 0 0 (MQ below (zQi D cy ad L K len r M s.heap.size) args s 0 0 (zA ad L s.heap.size)) (F0 m 0 ls []) := by
  obtain ⟨hx, hb, hr, hml, hown, hts, hlocks, hK, hL, hE⟩ := id C0
  unfold f_X4_crossesEarlier_0 at h
  refine lv_iconst (v := 1) hx hb dX4_crossesEarlier_0 (by decide) ?_
  refine lv_istore_n (lv' := [(3, .int (1 : Int32)), (0, .ref (ad x0)), (1, .int x1), (2, .int x2)]) hx hb dX4_crossesEarlier_1 rfl hl (by decide) rfl (fun ls hl => ?_)
  exact t_X4_crossesEarlier_2 C0 N  N h hW hS (lv_sub hl [1, 2, 3, 0] rfl)
def f_X4_crossesEarlier (N : Nat) (K len : Nat → Nat) (a0 : Nat) (a1 : Int32) (a2 : Int32) (M : ZM) : Option (Int32) := f_X4_crossesEarlier_0 N K len a0 a1 a2 M
set_option maxRecDepth 100000 in
set_option maxHeartbeats 4000000 in
theorem m_X4_crossesEarlier (l : Launch) {D : va_G} {cy : Nat → ClassId} {ad : Nat → Nat} {L : List Nat} {K len : Nat → Nat} (hL : zSh ad L K) (N : Nat) {a0 : Nat} {a1 : Int32} {a2 : Int32} {M : ZM} {r : Int32} (h : f_X4_crossesEarlier N K len a0 a1 a2 M = some r) (sz : Nat) : Met l yX4_crossesEarlier wsX4_crossesEarlier ({ frames := 2, cells := 0, slots := 0, locals := 51 } : Room) (zPre D cy ad L K len sz [.ref (ad a0), .int a1, .int a2] M) (zQi D cy ad L K len r M sz) 0 0 (zA ad L sz) :=
  z_entry (Qf := fun sz => zQi D cy ad L K len r M sz) (av := [.ref (ad a0), .int a1, .int a2]) (by decide) rfl rfl hL (Nat.le_of_ble_eq_true rfl) (fun p e s m args below meth c C0 H locs ls hW hS hl => t_X4_crossesEarlier_0 C0 N h hW hS (lv_sub hl [0, 1, 2] rfl))

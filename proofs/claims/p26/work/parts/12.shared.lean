/-! Walks laid by program (wip/whole/gen): X6_find, X6_checkWord, X6_checkArc, X6_checkFeature, X6_checkTree, X4_run, X6_tryAll, X6_bestKey, X6_rankedKey -/
def f_X6_find_13 (N : Nat) (K len : Nat → Nat) (M : ZM) : Option (Nat ⊕ Nat) :=
some (Sum.inl 1)
set_option maxRecDepth 100000 in
set_option maxHeartbeats 4000000 in
theorem t_X6_find_13 {p : Program} {l : Launch} {e : Env} {s : State} {m : MethodId} {args : Array Value} {below : List Frame} {meth : Method} {c : Code} {D : va_G} {cy : Nat → ClassId} {ad : Nat → Nat} {L : List Nat} {K len : Nat → Nat} (C0 : zCxX p l s m c meth args cX6_find 3 wsX6_find RX6 (some (.object "ArcLight$Sentence")) D cy ad L K) (N : Nat) {M : ZM} {o : Nat ⊕ Nat} (h : f_X6_find_13 N K len M = some o) {H : Heap} {locs : List Loc} {ls : Array Slot} (hW : zWd D cy ad L K len M H) (hS : va_S (zA ad L s.heap.size) s.heap H locs) (hl : lv_has ls 3 []) : W p l e (headSpec wsX6_find ({ frames := 6, cells := 1, slots := 6, locals := 90 } : Room)).room s m args below meth c H locs 0 0 (vx_MQ below (zY D cy ad L K len (zvR ad) o M s.heap.size) (zX D cy ad L K len o M s.heap.size) args s 1 6 (zA ad L s.heap.size)) (F0 m 13 ls []) := by
  obtain ⟨⟨hx, hb, hr, hml, hown, hts, hlocks, hK, hL, hE⟩, hlt, hex⟩ := id C0
  unfold f_X6_find_13 at h
  have hgw : ∀ w ∈ (vx_atS RX6 201 (zexn 1) znames).filter goodWord, w ∈ wsX6_find := by decide +kernel
  exact z_throw (own := RX6) (k := 1) (ik := 197) (is := 199) (ic := 201) (text := "there is no such sentence") (names := znames) hx hb hlt hown zfit1 znames_fit (hts (.classLink RX6 197 "java/lang/IndexOutOfBoundsException") (by decide +kernel)) (hts (.initialized "java/lang/IndexOutOfBoundsException") (by decide +kernel)) (hE.2.2.2.1 (199, "there is no such sentence") (by decide)) (vx_hat (B := znw) (fun w hw => hts w (hgw w hw)) (by decide +kernel) (znw_use hE.1)) (by decide +kernel) hE hW hS (hl.1.trans hml.symm) dX6_find_13 dX6_find_16 dX6_find_17 dX6_find_19 dX6_find_22 hex (Option.some.inj h).symm rfl (Nat.le_of_ble_eq_true rfl) (Nat.le_of_ble_eq_true rfl) (Nat.le_of_ble_eq_true rfl) (Nat.le_of_ble_eq_true rfl) hlocks (Nat.le_of_ble_eq_true rfl) (Nat.le_of_ble_eq_true rfl)
def f_X6_find_0 (N : Nat) (K len : Nat → Nat) (x0 : Nat) (x1 : Int32) (M : ZM) : Option (Nat ⊕ Nat) :=
(if x1 < 0 then
f_X6_find_13 N K len  M
else
zg (K x0 == 7) (
(zR M x0 0).bind fun b3 => (
zg (11 ≤ K b3 && K b3 ≤ 17) (
(if x1 < (Int32.ofNat (len b3)) then
zg (zok K len b3 14 x1) (
zop (zR M b3 x1.toNatClampNeg) (
some (Sum.inl 1)) fun b8 => (
some (Sum.inr b8)))
else
f_X6_find_13 N K len  M)))))
set_option maxRecDepth 100000 in
set_option maxHeartbeats 4000000 in
theorem t_X6_find_0 {p : Program} {l : Launch} {e : Env} {s : State} {m : MethodId} {args : Array Value} {below : List Frame} {meth : Method} {c : Code} {D : va_G} {cy : Nat → ClassId} {ad : Nat → Nat} {L : List Nat} {K len : Nat → Nat} (C0 : zCxX p l s m c meth args cX6_find 3 wsX6_find RX6 (some (.object "ArcLight$Sentence")) D cy ad L K) (N : Nat) {x0 : Nat} {x1 : Int32} {M : ZM} {o : Nat ⊕ Nat} (h : f_X6_find_0 N K len x0 x1 M = some o) {H : Heap} {locs : List Loc} {ls : Array Slot} (hW : zWd D cy ad L K len M H) (hS : va_S (zA ad L s.heap.size) s.heap H locs) (hl : lv_has ls 3 [(0, .ref (ad x0)), (1, .int x1)]) : W p l e (headSpec wsX6_find ({ frames := 6, cells := 1, slots := 6, locals := 90 } : Room)).room s m args below meth c H locs 0 0 (vx_MQ below (zY D cy ad L K len (zvR ad) o M s.heap.size) (zX D cy ad L K len o M s.heap.size) args s 1 6 (zA ad L s.heap.size)) (F0 m 0 ls []) := by
  obtain ⟨⟨hx, hb, hr, hml, hown, hts, hlocks, hK, hL, hE⟩, hlt, hex⟩ := id C0
  have hinX6 : ∀ w ∈ wsX60, w ∈ wsX6_find := by decide +kernel
  unfold f_X6_find_0 at h
  refine lv_iload_n hx hb dX6_find_0 rfl (lv_at hl 1 rfl) ?_
  refine lv_if_lt (tgt := 13) hx hb dX6_find_1 (by decide) (fun c1 => ?_) (fun c1 => ?_)
  · have h := zip c1 h
    exact t_X6_find_13 C0 N  h hW hS (lv_sub hl [] rfl)
  · have h := zin c1 h
    refine lv_iload_n hx hb dX6_find_4 rfl (lv_at hl 1 rfl) ?_
    refine lv_aload_n hx hb dX6_find_5 rfl (lv_at hl 0 rfl) ?_
    obtain ⟨g2, h⟩ := zg_some h
    obtain ⟨b3, e4, h⟩ := zb_some h
    refine z_get (own := RX6) (C := RX6) (T := TX6) (N := 7) (ci := 6) hx hb hts hinX6 hown hK hL hW 0 (zK_of g2) rfl (by decide) (by decide) rfl (hts (.fieldLink RX6 11 "ArcLight" "all" "[LArcLight$Sentence;") (by decide +kernel)) (v := .ref (ad b3)) (zhvR e4 rfl) dX6_find_6 ?_
    obtain ⟨g5, h⟩ := zg_some h
    refine z_alen hx hb hK hL hW g5 dX6_find_9 ?_
    refine lv_icmp_lt (tgt := 23) hx hb dX6_find_10 (by decide) (fun c6 => ?_) (fun c6 => ?_)
    · have h := zip c6 h
      refine lv_aload_n hx hb dX6_find_23 rfl (lv_at hl 0 rfl) ?_
      refine z_get (own := RX6) (C := RX6) (T := TX6) (N := 7) (ci := 6) hx hb hts hinX6 hown hK hL hW 0 (zK_of g2) rfl (by decide) (by decide) rfl (hts (.fieldLink RX6 11 "ArcLight" "all" "[LArcLight$Sentence;") (by decide +kernel)) (v := .ref (ad b3)) (zhvR e4 rfl) dX6_find_24 ?_
      refine lv_iload_n hx hb dX6_find_27 rfl (lv_at hl 1 rfl) ?_
      obtain ⟨g7, h⟩ := zg_some h
      rcases zop_c h with ⟨e9, h⟩ | ⟨b8, e9, h⟩
      · refine z_aaldN hx hb hK hL hW 14 g7 (by decide) e9 dX6_find_28 ?_
        refine lv_astore_nN (lv' := [(2, .null), (0, .ref (ad x0)), (1, .int x1)]) hx hb dX6_find_29 rfl hl (by decide) rfl (fun ls hl => ?_)
        refine lv_aload_nN hx hb dX6_find_30 rfl (lv_at hl 0 rfl) ?_
        refine lv_ifnonnullN hx hb dX6_find_31 ?_
        have hgw : ∀ w ∈ (vx_atS RX6 201 (zexn 1) znames).filter goodWord, w ∈ wsX6_find := by decide +kernel
        exact z_throw (own := RX6) (k := 1) (ik := 197) (is := 199) (ic := 201) (text := "there is no such sentence") (names := znames) hx hb hlt hown zfit1 znames_fit (hts (.classLink RX6 197 "java/lang/IndexOutOfBoundsException") (by decide +kernel)) (hts (.initialized "java/lang/IndexOutOfBoundsException") (by decide +kernel)) (hE.2.2.2.1 (199, "there is no such sentence") (by decide)) (vx_hat (B := znw) (fun w hw => hts w (hgw w hw)) (by decide +kernel) (znw_use hE.1)) (by decide +kernel) hE hW hS (hl.1.trans hml.symm) dX6_find_34 dX6_find_37 dX6_find_38 dX6_find_40 dX6_find_43 hex (Option.some.inj h).symm rfl (Nat.le_of_ble_eq_true rfl) (Nat.le_of_ble_eq_true rfl) (Nat.le_of_ble_eq_true rfl) (Nat.le_of_ble_eq_true rfl) hlocks (Nat.le_of_ble_eq_true rfl) (Nat.le_of_ble_eq_true rfl)
      · refine z_aaldS hx hb hK hL hW 14 g7 (by decide) e9 dX6_find_28 ?_
        refine lv_astore_n (lv' := [(2, .ref (ad b8)), (0, .ref (ad x0)), (1, .int x1)]) hx hb dX6_find_29 rfl hl (by decide) rfl (fun ls hl => ?_)
        refine lv_aload_n hx hb dX6_find_30 rfl (lv_at hl 0 rfl) ?_
        refine lv_ifnonnull (tgt := 44) hx hb dX6_find_31 (by decide) ?_
        refine lv_aload_n hx hb dX6_find_44 rfl (lv_at hl 0 rfl) ?_
        exact z_xaret hx hb hr hlocks hW hS (Option.some.inj h) rfl dX6_find_45 (Nat.le_of_ble_eq_true rfl) (Nat.le_of_ble_eq_true rfl)
    · have h := zin c6 h
      exact t_X6_find_13 C0 N  h hW hS (lv_sub hl [] rfl)
def f_X6_find (N : Nat) (K len : Nat → Nat) (a0 : Nat) (a1 : Int32) (M : ZM) : Option (Nat ⊕ Nat) := f_X6_find_0 N K len a0 a1 M
set_option maxRecDepth 100000 in
set_option maxHeartbeats 4000000 in
theorem m_X6_find (l : Launch) (hlt : l.stackTraces = false) {D : va_G} {cy : Nat → ClassId} {ad : Nat → Nat} {L : List Nat} {K len : Nat → Nat} (hL : zSh ad L K) (N : Nat) {a0 : Nat} {a1 : Int32} {M : ZM} {o : Nat ⊕ Nat} (h : f_X6_find N K len a0 a1 M = some o) (sz : Nat) : vx_Met l yX6_find wsX6_find ({ frames := 6, cells := 1, slots := 6, locals := 90 } : Room) (zPre D cy ad L K len sz [.ref (ad a0), .int a1] M) (zY D cy ad L K len (zvR ad) o M sz) (zX D cy ad L K len o M sz) 1 6 (zA ad L sz) :=
  z_xentry hlt (Qf := fun sz => zY D cy ad L K len (zvR ad) o M sz) (Xf := fun sz => zX D cy ad L K len o M sz) (av := [.ref (ad a0), .int a1]) (by decide) rfl rfl hL (Nat.le_of_ble_eq_true rfl) (fun p e s m args below meth c C0 H locs ls hW hS hl => t_X6_find_0 C0 N h hW hS (lv_sub hl [0, 1] rfl))
def f_X6_checkWord_13 (N : Nat) (K len : Nat → Nat) (M : ZM) : Option (Nat ⊕ Unit) :=
some (Sum.inl 1)
set_option maxRecDepth 100000 in
set_option maxHeartbeats 4000000 in
theorem t_X6_checkWord_13 {p : Program} {l : Launch} {e : Env} {s : State} {m : MethodId} {args : Array Value} {below : List Frame} {meth : Method} {c : Code} {D : va_G} {cy : Nat → ClassId} {ad : Nat → Nat} {L : List Nat} {K len : Nat → Nat} (C0 : zCxX p l s m c meth args cX6_checkWord 2 wsX6_checkWord RX6 none D cy ad L K) (N : Nat) {M : ZM} {o : Nat ⊕ Unit} (h : f_X6_checkWord_13 N K len M = some o) {H : Heap} {locs : List Loc} {ls : Array Slot} (hW : zWd D cy ad L K len M H) (hS : va_S (zA ad L s.heap.size) s.heap H locs) (hl : lv_has ls 2 []) : W p l e (headSpec wsX6_checkWord ({ frames := 6, cells := 1, slots := 6, locals := 90 } : Room)).room s m args below meth c H locs 0 0 (vx_MQ below (zY D cy ad L K len zvV o M s.heap.size) (zX D cy ad L K len o M s.heap.size) args s 1 6 (zA ad L s.heap.size)) (F0 m 13 ls []) := by
  obtain ⟨⟨hx, hb, hr, hml, hown, hts, hlocks, hK, hL, hE⟩, hlt, hex⟩ := id C0
  unfold f_X6_checkWord_13 at h
  have hgw : ∀ w ∈ (vx_atS RX6 201 (zexn 1) znames).filter goodWord, w ∈ wsX6_checkWord := by decide +kernel
  exact z_throw (own := RX6) (k := 1) (ik := 197) (is := 202) (ic := 201) (text := "there is no such word") (names := znames) hx hb hlt hown zfit1 znames_fit (hts (.classLink RX6 197 "java/lang/IndexOutOfBoundsException") (by decide +kernel)) (hts (.initialized "java/lang/IndexOutOfBoundsException") (by decide +kernel)) (hE.2.2.2.1 (202, "there is no such word") (by decide)) (vx_hat (B := znw) (fun w hw => hts w (hgw w hw)) (by decide +kernel) (znw_use hE.1)) (by decide +kernel) hE hW hS (hl.1.trans hml.symm) dX6_checkWord_13 dX6_checkWord_16 dX6_checkWord_17 dX6_checkWord_19 dX6_checkWord_22 hex (Option.some.inj h).symm rfl (Nat.le_of_ble_eq_true rfl) (Nat.le_of_ble_eq_true rfl) (Nat.le_of_ble_eq_true rfl) (Nat.le_of_ble_eq_true rfl) hlocks (Nat.le_of_ble_eq_true rfl) (Nat.le_of_ble_eq_true rfl)
def f_X6_checkWord_0 (N : Nat) (K len : Nat → Nat) (x0 : Nat) (x1 : Int32) (M : ZM) : Option (Nat ⊕ Unit) :=
(if x1 < (1 : Int32) then
f_X6_checkWord_13 N K len  M
else
(f_X2_size N K len x0 M).bind fun q2 => (
zg (K x0 == 3) (
(if x1 ≤ q2 then
some (Sum.inr ())
else
f_X6_checkWord_13 N K len  M))))
set_option maxRecDepth 100000 in
set_option maxHeartbeats 4000000 in
theorem t_X6_checkWord_0 {p : Program} {l : Launch} {e : Env} {s : State} {m : MethodId} {args : Array Value} {below : List Frame} {meth : Method} {c : Code} {D : va_G} {cy : Nat → ClassId} {ad : Nat → Nat} {L : List Nat} {K len : Nat → Nat} (C0 : zCxX p l s m c meth args cX6_checkWord 2 wsX6_checkWord RX6 none D cy ad L K) (N : Nat) {x0 : Nat} {x1 : Int32} {M : ZM} {o : Nat ⊕ Unit} (h : f_X6_checkWord_0 N K len x0 x1 M = some o) {H : Heap} {locs : List Loc} {ls : Array Slot} (hW : zWd D cy ad L K len M H) (hS : va_S (zA ad L s.heap.size) s.heap H locs) (hl : lv_has ls 2 [(0, .ref (ad x0)), (1, .int x1)]) : W p l e (headSpec wsX6_checkWord ({ frames := 6, cells := 1, slots := 6, locals := 90 } : Room)).room s m args below meth c H locs 0 0 (vx_MQ below (zY D cy ad L K len zvV o M s.heap.size) (zX D cy ad L K len o M s.heap.size) args s 1 6 (zA ad L s.heap.size)) (F0 m 0 ls []) := by
  obtain ⟨⟨hx, hb, hr, hml, hown, hts, hlocks, hK, hL, hE⟩, hlt, hex⟩ := id C0
  unfold f_X6_checkWord_0 at h
  refine lv_iload_n hx hb dX6_checkWord_0 rfl (lv_at hl 1 rfl) ?_
  refine lv_iconst (v := 1) hx hb dX6_checkWord_1 (by decide) ?_
  refine lv_icmp_lt (tgt := 13) hx hb dX6_checkWord_2 (by decide) (fun c1 => ?_) (fun c1 => ?_)
  · have h := zip c1 h
    exact t_X6_checkWord_13 C0 N  h hW hS (lv_sub hl [] rfl)
  · have h := zin c1 h
    refine lv_iload_n hx hb dX6_checkWord_5 rfl (lv_at hl 1 rfl) ?_
    refine lv_aload_n hx hb dX6_checkWord_6 rfl (lv_at hl 0 rfl) ?_
    obtain ⟨q2, e3, h⟩ := zb_some h
    obtain ⟨g4, h⟩ := zg_some h
    refine z_calli hS (va_runV (As := []) (rest := [.int x1]) ⟨hx, hb, hml, hown, hts⟩ (m_X2_size l hL N e3 H.size) (cwV 0 hts gX6_checkWord_X2_size rfl rfl rfl (by decide +kernel) ⟨Nat.le_of_ble_eq_true rfl, Nat.le_of_ble_eq_true rfl⟩) (z_preV (q := (RX2, TX2, 4)) hK hL hE hW hS (zK_of g4) (by decide) rfl []) rfl rfl hl.1 rfl (lv_room (Nat.le_of_ble_eq_true rfl)) dX6_checkWord_7 ⟨Nat.le_of_ble_eq_true rfl, Nat.le_of_ble_eq_true rfl⟩) (fun H locs hW hS => ?_)
    refine lv_icmp_le (tgt := 23) hx hb dX6_checkWord_10 (by decide) (fun c5 => ?_) (fun c5 => ?_)
    · have h := zip c5 h
      exact z_xvret hx hb hr hlocks hW hS (Option.some.inj h) rfl dX6_checkWord_23 (Nat.le_of_ble_eq_true rfl) (Nat.le_of_ble_eq_true rfl)
    · have h := zin c5 h
      exact t_X6_checkWord_13 C0 N  h hW hS (lv_sub hl [] rfl)
def f_X6_checkWord (N : Nat) (K len : Nat → Nat) (a0 : Nat) (a1 : Int32) (M : ZM) : Option (Nat ⊕ Unit) := f_X6_checkWord_0 N K len a0 a1 M
set_option maxRecDepth 100000 in
set_option maxHeartbeats 4000000 in
theorem m_X6_checkWord (l : Launch) (hlt : l.stackTraces = false) {D : va_G} {cy : Nat → ClassId} {ad : Nat → Nat} {L : List Nat} {K len : Nat → Nat} (hL : zSh ad L K) (N : Nat) {a0 : Nat} {a1 : Int32} {M : ZM} {o : Nat ⊕ Unit} (h : f_X6_checkWord N K len a0 a1 M = some o) (sz : Nat) : vx_Met l yX6_checkWord wsX6_checkWord ({ frames := 6, cells := 1, slots := 6, locals := 90 } : Room) (zPre D cy ad L K len sz [.ref (ad a0), .int a1] M) (zY D cy ad L K len zvV o M sz) (zX D cy ad L K len o M sz) 1 6 (zA ad L sz) :=
  z_xentry hlt (Qf := fun sz => zY D cy ad L K len zvV o M sz) (Xf := fun sz => zX D cy ad L K len o M sz) (av := [.ref (ad a0), .int a1]) (by decide) rfl rfl hL (Nat.le_of_ble_eq_true rfl) (fun p e s m args below meth c C0 H locs ls hW hS hl => t_X6_checkWord_0 C0 N h hW hS (lv_sub hl [0, 1] rfl))
def f_X6_checkArc_12 (N : Nat) (K len : Nat → Nat) (M : ZM) : Option (Nat ⊕ Unit) :=
some (Sum.inl 1)
set_option maxRecDepth 100000 in
set_option maxHeartbeats 4000000 in
theorem t_X6_checkArc_12 {p : Program} {l : Launch} {e : Env} {s : State} {m : MethodId} {args : Array Value} {below : List Frame} {meth : Method} {c : Code} {D : va_G} {cy : Nat → ClassId} {ad : Nat → Nat} {L : List Nat} {K len : Nat → Nat} (C0 : zCxX p l s m c meth args cX6_checkArc 3 wsX6_checkArc RX6 none D cy ad L K) (N : Nat) {M : ZM} {o : Nat ⊕ Unit} (h : f_X6_checkArc_12 N K len M = some o) {H : Heap} {locs : List Loc} {ls : Array Slot} (hW : zWd D cy ad L K len M H) (hS : va_S (zA ad L s.heap.size) s.heap H locs) (hl : lv_has ls 3 []) : W p l e (headSpec wsX6_checkArc ({ frames := 7, cells := 2, slots := 12, locals := 111 } : Room)).room s m args below meth c H locs 0 0 (vx_MQ below (zY D cy ad L K len zvV o M s.heap.size) (zX D cy ad L K len o M s.heap.size) args s 2 12 (zA ad L s.heap.size)) (F0 m 12 ls []) := by
  obtain ⟨⟨hx, hb, hr, hml, hown, hts, hlocks, hK, hL, hE⟩, hlt, hex⟩ := id C0
  unfold f_X6_checkArc_12 at h
  have hgw : ∀ w ∈ (vx_atS RX6 201 (zexn 1) znames).filter goodWord, w ∈ wsX6_checkArc := by decide +kernel
  exact z_throw (own := RX6) (k := 1) (ik := 197) (is := 204) (ic := 201) (text := "there is no such head") (names := znames) hx hb hlt hown zfit1 znames_fit (hts (.classLink RX6 197 "java/lang/IndexOutOfBoundsException") (by decide +kernel)) (hts (.initialized "java/lang/IndexOutOfBoundsException") (by decide +kernel)) (hE.2.2.2.1 (204, "there is no such head") (by decide)) (vx_hat (B := znw) (fun w hw => hts w (hgw w hw)) (by decide +kernel) (znw_use hE.1)) (by decide +kernel) hE hW hS (hl.1.trans hml.symm) dX6_checkArc_12 dX6_checkArc_15 dX6_checkArc_16 dX6_checkArc_18 dX6_checkArc_21 hex (Option.some.inj h).symm rfl (Nat.le_of_ble_eq_true rfl) (Nat.le_of_ble_eq_true rfl) (Nat.le_of_ble_eq_true rfl) (Nat.le_of_ble_eq_true rfl) hlocks (Nat.le_of_ble_eq_true rfl) (Nat.le_of_ble_eq_true rfl)
def f_X6_checkArc_0 (N : Nat) (K len : Nat → Nat) (x0 : Nat) (x1 : Int32) (x2 : Int32) (M : ZM) : Option (Nat ⊕ Unit) :=
(if x1 < 0 then
f_X6_checkArc_12 N K len  M
else
(f_X2_size N K len x0 M).bind fun q2 => (
zg (K x0 == 3) (
(if x1 ≤ q2 then
(f_X6_checkWord N K len x0 x2 M).bind fun q6 => (
zx q6 (fun k => some (Sum.inl k)) fun r8 => (
(if x1 = x2 then
some (Sum.inl 2)
else
some (Sum.inr ()))))
else
f_X6_checkArc_12 N K len  M))))
set_option maxRecDepth 100000 in
set_option maxHeartbeats 4000000 in
theorem t_X6_checkArc_0 {p : Program} {l : Launch} {e : Env} {s : State} {m : MethodId} {args : Array Value} {below : List Frame} {meth : Method} {c : Code} {D : va_G} {cy : Nat → ClassId} {ad : Nat → Nat} {L : List Nat} {K len : Nat → Nat} (C0 : zCxX p l s m c meth args cX6_checkArc 3 wsX6_checkArc RX6 none D cy ad L K) (N : Nat) {x0 : Nat} {x1 : Int32} {x2 : Int32} {M : ZM} {o : Nat ⊕ Unit} (h : f_X6_checkArc_0 N K len x0 x1 x2 M = some o) {H : Heap} {locs : List Loc} {ls : Array Slot} (hW : zWd D cy ad L K len M H) (hS : va_S (zA ad L s.heap.size) s.heap H locs) (hl : lv_has ls 3 [(0, .ref (ad x0)), (1, .int x1), (2, .int x2)]) : W p l e (headSpec wsX6_checkArc ({ frames := 7, cells := 2, slots := 12, locals := 111 } : Room)).room s m args below meth c H locs 0 0 (vx_MQ below (zY D cy ad L K len zvV o M s.heap.size) (zX D cy ad L K len o M s.heap.size) args s 2 12 (zA ad L s.heap.size)) (F0 m 0 ls []) := by
  obtain ⟨⟨hx, hb, hr, hml, hown, hts, hlocks, hK, hL, hE⟩, hlt, hex⟩ := id C0
  unfold f_X6_checkArc_0 at h
  refine lv_iload_n hx hb dX6_checkArc_0 rfl (lv_at hl 1 rfl) ?_
  refine lv_if_lt (tgt := 12) hx hb dX6_checkArc_1 (by decide) (fun c1 => ?_) (fun c1 => ?_)
  · have h := zip c1 h
    exact t_X6_checkArc_12 C0 N  h hW hS (lv_sub hl [] rfl)
  · have h := zin c1 h
    refine lv_iload_n hx hb dX6_checkArc_4 rfl (lv_at hl 1 rfl) ?_
    refine lv_aload_n hx hb dX6_checkArc_5 rfl (lv_at hl 0 rfl) ?_
    obtain ⟨q2, e3, h⟩ := zb_some h
    obtain ⟨g4, h⟩ := zg_some h
    refine z_calli hS (va_runV (As := []) (rest := [.int x1]) ⟨hx, hb, hml, hown, hts⟩ (m_X2_size l hL N e3 H.size) (cwV 0 hts gX6_checkArc_X2_size rfl rfl rfl (by decide +kernel) ⟨Nat.le_of_ble_eq_true rfl, Nat.le_of_ble_eq_true rfl⟩) (z_preV (q := (RX2, TX2, 4)) hK hL hE hW hS (zK_of g4) (by decide) rfl []) rfl rfl hl.1 rfl (lv_room (Nat.le_of_ble_eq_true rfl)) dX6_checkArc_6 ⟨Nat.le_of_ble_eq_true rfl, Nat.le_of_ble_eq_true rfl⟩) (fun H locs hW hS => ?_)
    refine lv_icmp_le (tgt := 22) hx hb dX6_checkArc_9 (by decide) (fun c5 => ?_) (fun c5 => ?_)
    · have h := zip c5 h
      refine lv_aload_n hx hb dX6_checkArc_22 rfl (lv_at hl 0 rfl) ?_
      refine lv_iload_n hx hb dX6_checkArc_23 rfl (lv_at hl 2 rfl) ?_
      obtain ⟨q6, e7, h⟩ := zb_some h
      refine z_xcallv hS (vx_runS (As := [.ref (ad x0), .int x2]) (rest := []) ⟨hx, hb, hml, hown, hts⟩ (m_X6_checkWord l hlt hL N e7 H.size) (va_cwS 2 hts gX6_checkArc_X6_checkWord rfl rfl rfl (by decide +kernel) ⟨Nat.le_of_ble_eq_true rfl, Nat.le_of_ble_eq_true rfl⟩) (z_preS hK hE hW hS [.ref (ad x0), .int x2]) rfl rfl hl.1 rfl (lv_room (Nat.le_of_ble_eq_true rfl)) dX6_checkArc_24 ⟨Nat.le_of_ble_eq_true rfl, Nat.le_of_ble_eq_true rfl⟩) (fun k hk H locs q9 ce hW hS hce hcv hcl => by subst hk; have h := zx_l h; exact z_xout hex hlocks (Option.some.inj h).symm rfl hW hS hce hcv hcl (Nat.le_of_ble_eq_true rfl) (Nat.le_of_ble_eq_true rfl)) (fun r8 hk H locs hW hS => ?_)
      subst hk
      have h := zx_r h
      refine lv_iload_n hx hb dX6_checkArc_27 rfl (lv_at hl 1 rfl) ?_
      refine lv_iload_n hx hb dX6_checkArc_28 rfl (lv_at hl 2 rfl) ?_
      refine lv_icmp_ne (tgt := 42) hx hb dX6_checkArc_29 (by decide) (fun c9 => ?_) (fun c9 => ?_)
      · have h := zin c9 h
        exact z_xvret hx hb hr hlocks hW hS (Option.some.inj h) rfl dX6_checkArc_42 (Nat.le_of_ble_eq_true rfl) (Nat.le_of_ble_eq_true rfl)
      · have h := zip c9 h
        have hgw : ∀ w ∈ (vx_atS RX6 70 (zexn 2) znames).filter goodWord, w ∈ wsX6_checkArc := by decide +kernel
        exact z_throw (own := RX6) (k := 2) (ik := 66) (is := 206) (ic := 70) (text := "head and word are the same") (names := znames) hx hb hlt hown zfit2 znames_fit (hts (.classLink RX6 66 "java/lang/IllegalArgumentException") (by decide +kernel)) (hts (.initialized "java/lang/IllegalArgumentException") (by decide +kernel)) (hE.2.2.2.1 (206, "head and word are the same") (by decide)) (vx_hat (B := znw) (fun w hw => hts w (hgw w hw)) (by decide +kernel) (znw_use hE.1)) (by decide +kernel) hE hW hS (hl.1.trans hml.symm) dX6_checkArc_32 dX6_checkArc_35 dX6_checkArc_36 dX6_checkArc_38 dX6_checkArc_41 hex (Option.some.inj h).symm rfl (Nat.le_of_ble_eq_true rfl) (Nat.le_of_ble_eq_true rfl) (Nat.le_of_ble_eq_true rfl) (Nat.le_of_ble_eq_true rfl) hlocks (Nat.le_of_ble_eq_true rfl) (Nat.le_of_ble_eq_true rfl)
    · have h := zin c5 h
      exact t_X6_checkArc_12 C0 N  h hW hS (lv_sub hl [] rfl)
def f_X6_checkArc (N : Nat) (K len : Nat → Nat) (a0 : Nat) (a1 : Int32) (a2 : Int32) (M : ZM) : Option (Nat ⊕ Unit) := f_X6_checkArc_0 N K len a0 a1 a2 M
set_option maxRecDepth 100000 in
set_option maxHeartbeats 4000000 in
theorem m_X6_checkArc (l : Launch) (hlt : l.stackTraces = false) {D : va_G} {cy : Nat → ClassId} {ad : Nat → Nat} {L : List Nat} {K len : Nat → Nat} (hL : zSh ad L K) (N : Nat) {a0 : Nat} {a1 : Int32} {a2 : Int32} {M : ZM} {o : Nat ⊕ Unit} (h : f_X6_checkArc N K len a0 a1 a2 M = some o) (sz : Nat) : vx_Met l yX6_checkArc wsX6_checkArc ({ frames := 7, cells := 2, slots := 12, locals := 111 } : Room) (zPre D cy ad L K len sz [.ref (ad a0), .int a1, .int a2] M) (zY D cy ad L K len zvV o M sz) (zX D cy ad L K len o M sz) 2 12 (zA ad L sz) :=
  z_xentry hlt (Qf := fun sz => zY D cy ad L K len zvV o M sz) (Xf := fun sz => zX D cy ad L K len o M sz) (av := [.ref (ad a0), .int a1, .int a2]) (by decide) rfl rfl hL (Nat.le_of_ble_eq_true rfl) (fun p e s m args below meth c C0 H locs ls hW hS hl => t_X6_checkArc_0 C0 N h hW hS (lv_sub hl [0, 1, 2] rfl))
def f_X6_checkFeature_10 (N : Nat) : Option (Nat ⊕ Unit) :=
some (Sum.inl 1)
set_option maxRecDepth 100000 in
set_option maxHeartbeats 4000000 in
theorem t_X6_checkFeature_10 {p : Program} {l : Launch} {e : Env} {s : State} {m : MethodId} {args : Array Value} {below : List Frame} {meth : Method} {c : Code} {D : va_G} {cy : Nat → ClassId} {ad : Nat → Nat} {L : List Nat} {K len : Nat → Nat} (C0 : zCxX p l s m c meth args cX6_checkFeature 1 wsX6_checkFeature RX6 none D cy ad L K) (N : Nat) {M : ZM} {o : Nat ⊕ Unit} (h : f_X6_checkFeature_10 N  = some o) {H : Heap} {locs : List Loc} {ls : Array Slot} (hW : zWd D cy ad L K len M H) (hS : va_S (zA ad L s.heap.size) s.heap H locs) (hl : lv_has ls 1 []) : W p l e (headSpec wsX6_checkFeature ({ frames := 6, cells := 1, slots := 6, locals := 90 } : Room)).room s m args below meth c H locs 0 0 (vx_MQ below (zY D cy ad L K len zvV o M s.heap.size) (zX D cy ad L K len o M s.heap.size) args s 1 6 (zA ad L s.heap.size)) (F0 m 10 ls []) := by
  obtain ⟨⟨hx, hb, hr, hml, hown, hts, hlocks, hK, hL, hE⟩, hlt, hex⟩ := id C0
  unfold f_X6_checkFeature_10 at h
  have hgw : ∀ w ∈ (vx_atS RX6 201 (zexn 1) znames).filter goodWord, w ∈ wsX6_checkFeature := by decide +kernel
  exact z_throw (own := RX6) (k := 1) (ik := 197) (is := 208) (ic := 201) (text := "there is no such feature") (names := znames) hx hb hlt hown zfit1 znames_fit (hts (.classLink RX6 197 "java/lang/IndexOutOfBoundsException") (by decide +kernel)) (hts (.initialized "java/lang/IndexOutOfBoundsException") (by decide +kernel)) (hE.2.2.2.1 (208, "there is no such feature") (by decide)) (vx_hat (B := znw) (fun w hw => hts w (hgw w hw)) (by decide +kernel) (znw_use hE.1)) (by decide +kernel) hE hW hS (hl.1.trans hml.symm) dX6_checkFeature_10 dX6_checkFeature_13 dX6_checkFeature_14 dX6_checkFeature_16 dX6_checkFeature_19 hex (Option.some.inj h).symm rfl (Nat.le_of_ble_eq_true rfl) (Nat.le_of_ble_eq_true rfl) (Nat.le_of_ble_eq_true rfl) (Nat.le_of_ble_eq_true rfl) hlocks (Nat.le_of_ble_eq_true rfl) (Nat.le_of_ble_eq_true rfl)
def f_X6_checkFeature_0 (N : Nat) (x0 : Int32) : Option (Nat ⊕ Unit) :=
(if x0 < 0 then
f_X6_checkFeature_10 N  
else
(if x0 < (28 : Int32) then
some (Sum.inr ())
else
f_X6_checkFeature_10 N  ))
set_option maxRecDepth 100000 in
set_option maxHeartbeats 4000000 in
theorem t_X6_checkFeature_0 {p : Program} {l : Launch} {e : Env} {s : State} {m : MethodId} {args : Array Value} {below : List Frame} {meth : Method} {c : Code} {D : va_G} {cy : Nat → ClassId} {ad : Nat → Nat} {L : List Nat} {K len : Nat → Nat} (C0 : zCxX p l s m c meth args cX6_checkFeature 1 wsX6_checkFeature RX6 none D cy ad L K) (N : Nat) {x0 : Int32} {M : ZM} {o : Nat ⊕ Unit} (h : f_X6_checkFeature_0 N x0 = some o) {H : Heap} {locs : List Loc} {ls : Array Slot} (hW : zWd D cy ad L K len M H) (hS : va_S (zA ad L s.heap.size) s.heap H locs) (hl : lv_has ls 1 [(0, .int x0)]) : W p l e (headSpec wsX6_checkFeature ({ frames := 6, cells := 1, slots := 6, locals := 90 } : Room)).room s m args below meth c H locs 0 0 (vx_MQ below (zY D cy ad L K len zvV o M s.heap.size) (zX D cy ad L K len o M s.heap.size) args s 1 6 (zA ad L s.heap.size)) (F0 m 0 ls []) := by
  obtain ⟨⟨hx, hb, hr, hml, hown, hts, hlocks, hK, hL, hE⟩, hlt, hex⟩ := id C0
  unfold f_X6_checkFeature_0 at h
  refine lv_iload_n hx hb dX6_checkFeature_0 rfl (lv_at hl 0 rfl) ?_
  refine lv_if_lt (tgt := 10) hx hb dX6_checkFeature_1 (by decide) (fun c1 => ?_) (fun c1 => ?_)
  · have h := zip c1 h
    exact t_X6_checkFeature_10 C0 N  h hW hS (lv_sub hl [] rfl)
  · have h := zin c1 h
    refine lv_iload_n hx hb dX6_checkFeature_4 rfl (lv_at hl 0 rfl) ?_
    refine lv_bipush (v := 28) hx hb dX6_checkFeature_5 (by decide) ?_
    refine lv_icmp_lt (tgt := 20) hx hb dX6_checkFeature_7 (by decide) (fun c2 => ?_) (fun c2 => ?_)
    · have h := zip c2 h
      exact z_xvret hx hb hr hlocks hW hS (Option.some.inj h) rfl dX6_checkFeature_20 (Nat.le_of_ble_eq_true rfl) (Nat.le_of_ble_eq_true rfl)
    · have h := zin c2 h
      exact t_X6_checkFeature_10 C0 N  h hW hS (lv_sub hl [] rfl)
def f_X6_checkFeature (N : Nat) (a0 : Int32) : Option (Nat ⊕ Unit) := f_X6_checkFeature_0 N a0
set_option maxRecDepth 100000 in
set_option maxHeartbeats 4000000 in
theorem m_X6_checkFeature (l : Launch) (hlt : l.stackTraces = false) {D : va_G} {cy : Nat → ClassId} {ad : Nat → Nat} {L : List Nat} {K len : Nat → Nat} (hL : zSh ad L K) (N : Nat) {a0 : Int32} {M : ZM} {o : Nat ⊕ Unit} (h : f_X6_checkFeature N a0 = some o) (sz : Nat) : vx_Met l yX6_checkFeature wsX6_checkFeature ({ frames := 6, cells := 1, slots := 6, locals := 90 } : Room) (zPre D cy ad L K len sz [.int a0] M) (zY D cy ad L K len zvV o M sz) (zX D cy ad L K len o M sz) 1 6 (zA ad L sz) :=
  z_xentry hlt (Qf := fun sz => zY D cy ad L K len zvV o M sz) (Xf := fun sz => zX D cy ad L K len o M sz) (av := [.int a0]) (by decide) rfl rfl hL (Nat.le_of_ble_eq_true rfl) (fun p e s m args below meth c C0 H locs ls hW hS hl => t_X6_checkFeature_0 C0 N h hW hS (lv_sub hl [0] rfl))
def f_X6_checkTree_0 (N : Nat) (x0 : Int64) : Option (Nat ⊕ Unit) :=
(if x0 = (-9223372036854775808 : Int64) then
some (Sum.inl 3)
else
some (Sum.inr ()))
set_option maxRecDepth 100000 in
set_option maxHeartbeats 4000000 in
theorem t_X6_checkTree_0 {p : Program} {l : Launch} {e : Env} {s : State} {m : MethodId} {args : Array Value} {below : List Frame} {meth : Method} {c : Code} {D : va_G} {cy : Nat → ClassId} {ad : Nat → Nat} {L : List Nat} {K len : Nat → Nat} (C0 : zCxX p l s m c meth args cX6_checkTree 2 wsX6_checkTree RX6 none D cy ad L K) (N : Nat) {x0 : Int64} {M : ZM} {o : Nat ⊕ Unit} (h : f_X6_checkTree_0 N x0 = some o) {H : Heap} {locs : List Loc} {ls : Array Slot} (hW : zWd D cy ad L K len M H) (hS : va_S (zA ad L s.heap.size) s.heap H locs) (hl : lv_has ls 2 [(0, .long x0)]) : W p l e (headSpec wsX6_checkTree ({ frames := 6, cells := 1, slots := 6, locals := 90 } : Room)).room s m args below meth c H locs 0 0 (vx_MQ below (zY D cy ad L K len zvV o M s.heap.size) (zX D cy ad L K len o M s.heap.size) args s 1 6 (zA ad L s.heap.size)) (F0 m 0 ls []) := by
  obtain ⟨⟨hx, hb, hr, hml, hown, hts, hlocks, hK, hL, hE⟩, hlt, hex⟩ := id C0
  unfold f_X6_checkTree_0 at h
  refine lv_lload_n hx hb dX6_checkTree_0 rfl (lv_at hl 0 rfl) ?_
  refine lv_ldc2 hx hb hown (hts (.constantLong RX6 210 (-9223372036854775808)) (by decide +kernel)) dX6_checkTree_1 ?_
  refine z_lc_ne (tgt := 18) hx hb dX6_checkTree_4 dX6_checkTree_5 (by decide) (fun c1 => ?_) (fun c1 => ?_)
  · have h := zin c1 h
    exact z_xvret hx hb hr hlocks hW hS (Option.some.inj h) rfl dX6_checkTree_18 (Nat.le_of_ble_eq_true rfl) (Nat.le_of_ble_eq_true rfl)
  · have h := zip c1 h
    have hgw : ∀ w ∈ (vx_atS RX6 58 (zexn 3) znames).filter goodWord, w ∈ wsX6_checkTree := by decide +kernel
    exact z_throw (own := RX6) (k := 3) (ik := 54) (is := 212) (ic := 58) (text := "there is no such tree") (names := znames) hx hb hlt hown zfit3 znames_fit (hts (.classLink RX6 54 "java/lang/IllegalStateException") (by decide +kernel)) (hts (.initialized "java/lang/IllegalStateException") (by decide +kernel)) (hE.2.2.2.1 (212, "there is no such tree") (by decide)) (vx_hat (B := znw) (fun w hw => hts w (hgw w hw)) (by decide +kernel) (znw_use hE.1)) (by decide +kernel) hE hW hS (hl.1.trans hml.symm) dX6_checkTree_8 dX6_checkTree_11 dX6_checkTree_12 dX6_checkTree_14 dX6_checkTree_17 hex (Option.some.inj h).symm rfl (Nat.le_of_ble_eq_true rfl) (Nat.le_of_ble_eq_true rfl) (Nat.le_of_ble_eq_true rfl) (Nat.le_of_ble_eq_true rfl) hlocks (Nat.le_of_ble_eq_true rfl) (Nat.le_of_ble_eq_true rfl)
def f_X6_checkTree (N : Nat) (a0 : Int64) : Option (Nat ⊕ Unit) := f_X6_checkTree_0 N a0
set_option maxRecDepth 100000 in
set_option maxHeartbeats 4000000 in
theorem m_X6_checkTree (l : Launch) (hlt : l.stackTraces = false) {D : va_G} {cy : Nat → ClassId} {ad : Nat → Nat} {L : List Nat} {K len : Nat → Nat} (hL : zSh ad L K) (N : Nat) {a0 : Int64} {M : ZM} {o : Nat ⊕ Unit} (h : f_X6_checkTree N a0 = some o) (sz : Nat) : vx_Met l yX6_checkTree wsX6_checkTree ({ frames := 6, cells := 1, slots := 6, locals := 90 } : Room) (zPre D cy ad L K len sz [.long a0] M) (zY D cy ad L K len zvV o M sz) (zX D cy ad L K len o M sz) 1 6 (zA ad L sz) :=
  z_xentry hlt (Qf := fun sz => zY D cy ad L K len zvV o M sz) (Xf := fun sz => zX D cy ad L K len o M sz) (av := [.long a0]) (by decide) rfl rfl hL (Nat.le_of_ble_eq_true rfl) (fun p e s m args below meth c C0 H locs ls hW hS hl => t_X6_checkTree_0 C0 N h hW hS (lv_sub hl [0] rfl))
def f_X4_run_0 (N : Nat) (K len : Nat → Nat) (x0 : Nat) (x1 : Nat) (x2 : Int32) (M : ZM) : Option (ZM) :=
zg (K x0 == 5) (
zl (zsI M x0 2 (0 : Int32)) fun M2 => (
(f_X4_giveHeads N K len 8 x0 x1 x2 (1 : Int32) (0 : Int64) M2).bind fun M6 => (
some M6)))
set_option maxRecDepth 100000 in
set_option maxHeartbeats 4000000 in
theorem t_X4_run_0 {p : Program} {l : Launch} {e : Env} {s : State} {m : MethodId} {args : Array Value} {below : List Frame} {meth : Method} {c : Code} {D : va_G} {cy : Nat → ClassId} {ad : Nat → Nat} {L : List Nat} {K len : Nat → Nat} (C0 : zCx p s m c meth args cX4_run 3 wsX4_run RX4 none D cy ad L K) (N : Nat) {x0 : Nat} {x1 : Nat} {x2 : Int32} {M : ZM} {Mr : ZM} (h : f_X4_run_0 N K len x0 x1 x2 M = some Mr) {H : Heap} {locs : List Loc} {ls : Array Slot} (hW : zWd D cy ad L K len M H) (hS : va_S (zA ad L s.heap.size) s.heap H locs) (hl : lv_has ls 3 [(0, .ref (ad x0)), (1, .ref (ad x1)), (2, .int x2)]) : W p l e (headSpec wsX4_run ({ frames := 12, cells := 0, slots := 0, locals := 326 } : Room)).room s m args below meth c H locs 0 0 (MQ below (zQv D cy ad L K len Mr s.heap.size) args s 0 0 (zA ad L s.heap.size)) (F0 m 0 ls []) := by
  obtain ⟨hx, hb, hr, hml, hown, hts, hlocks, hK, hL, hE⟩ := id C0
  have hinX4 : ∀ w ∈ wsX40, w ∈ wsX4_run := by decide +kernel
  unfold f_X4_run_0 at h
  refine lv_aload_n hx hb dX4_run_0 rfl (lv_at hl 0 rfl) ?_
  refine lv_iconst (v := 0) hx hb dX4_run_1 (by decide) ?_
  obtain ⟨g1, h⟩ := zg_some h
  refine z_put (own := RX4) (C := RX4) (T := TX4) (N := 3) (ci := 4) (v := .int (0 : Int32)) (M' := zsI M x0 2 (0 : Int32)) hx hb hts hinX4 tyX4 tyX4_ok nmX4 hown hK hL hW hS 2 (zK_of g1) rfl (by decide) (by decide) rfl (hts (.fieldLink RX4 19 "ArcLight$Trial" "found" "I") (by decide +kernel)) rfl (ty := .int) (by decide +kernel) rfl rfl (Nat.le_of_ble_eq_true rfl) dX4_run_2 (zM_I (zK_of g1) (by decide) rfl) (fun H locs hW hS => ?_)
  obtain ⟨M2, eM3, h⟩ := zl_some h
  rw [← eM3] at hW
  refine lv_aload_n hx hb dX4_run_5 rfl (lv_at hl 0 rfl) ?_
  refine lv_aload_n hx hb dX4_run_6 rfl (lv_at hl 1 rfl) ?_
  refine lv_iload_n hx hb dX4_run_7 rfl (lv_at hl 2 rfl) ?_
  refine lv_iconst (v := 1) hx hb dX4_run_8 (by decide) ?_
  refine lv_lconst (v := 0) hx hb dX4_run_9 (by decide) ?_
  obtain ⟨M6, e5, h⟩ := zb_some h
  refine z_callv hS (va_runS (As := [.ref (ad x0), .ref (ad x1), .int x2, .int (1 : Int32), .long (0 : Int64)]) (rest := []) ⟨hx, hb, hml, hown, hts⟩ (m_X4_giveHeads_d8 l hL N e5 H.size) (va_cwS 5 hts gX4_run_X4_giveHeads rfl rfl rfl (by decide +kernel) ⟨Nat.le_of_ble_eq_true rfl, Nat.le_of_ble_eq_true rfl⟩) (z_preS hK hE hW hS [.ref (ad x0), .ref (ad x1), .int x2, .int (1 : Int32), .long (0 : Int64)]) rfl rfl hl.1 rfl (lv_room (Nat.le_of_ble_eq_true rfl)) dX4_run_10 ⟨Nat.le_of_ble_eq_true rfl, Nat.le_of_ble_eq_true rfl⟩) (fun H locs hW hS => ?_)
  exact z_vret hx hb hr hlocks hW hS (Option.some.inj h) dX4_run_13
def f_X4_run (N : Nat) (K len : Nat → Nat) (a0 : Nat) (a1 : Nat) (a2 : Int32) (M : ZM) : Option (ZM) := f_X4_run_0 N K len a0 a1 a2 M
set_option maxRecDepth 100000 in
set_option maxHeartbeats 4000000 in
theorem m_X4_run (l : Launch) {D : va_G} {cy : Nat → ClassId} {ad : Nat → Nat} {L : List Nat} {K len : Nat → Nat} (hL : zSh ad L K) (N : Nat) {a0 : Nat} {a1 : Nat} {a2 : Int32} {M : ZM} {Mr : ZM} (h : f_X4_run N K len a0 a1 a2 M = some Mr) (sz : Nat) : Met l yX4_run wsX4_run ({ frames := 12, cells := 0, slots := 0, locals := 326 } : Room) (zPre D cy ad L K len sz [.ref (ad a0), .ref (ad a1), .int a2] M) (zQv D cy ad L K len Mr sz) 0 0 (zA ad L sz) :=
  z_entry (Qf := fun sz => zQv D cy ad L K len Mr sz) (av := [.ref (ad a0), .ref (ad a1), .int a2]) (by decide) rfl rfl hL (Nat.le_of_ble_eq_true rfl) (fun p e s m args below meth c C0 H locs ls hW hS hl => t_X4_run_0 C0 N h hW hS (lv_sub hl [0, 1, 2] rfl))
def f_X6_tryAll_0 (N : Nat) (K len : Nat → Nat) (x0 : Nat) (x1 : Nat) (x2 : Int32) (M : ZM) : Option (Nat × ZM) :=
zg (K x0 == 7) (
(zR M x0 3).bind fun b2 => (
(zR M x0 2).bind fun b4 => (
(f_X0_fill N K len b2 x1 b4 M).bind fun M8 => (
zg (K b2 == 1) (
(zR M8 x0 6).bind fun b10 => (
(zR M8 x0 3).bind fun b12 => (
(f_X4_run N K len b10 b12 x2 M8).bind fun M16 => (
zg (K b10 == 5) (
(zR M16 x0 6).bind fun b18 => (
some (b18, M16)))))))))))
set_option maxRecDepth 100000 in
set_option maxHeartbeats 4000000 in
theorem t_X6_tryAll_0 {p : Program} {l : Launch} {e : Env} {s : State} {m : MethodId} {args : Array Value} {below : List Frame} {meth : Method} {c : Code} {D : va_G} {cy : Nat → ClassId} {ad : Nat → Nat} {L : List Nat} {K len : Nat → Nat} (C0 : zCx p s m c meth args cX6_tryAll 3 wsX6_tryAll RX6 (some (.object "ArcLight$Trial")) D cy ad L K) (N : Nat) {x0 : Nat} {x1 : Nat} {x2 : Int32} {M : ZM} {r : Nat} {Mr : ZM} (h : f_X6_tryAll_0 N K len x0 x1 x2 M = some (r, Mr)) {H : Heap} {locs : List Loc} {ls : Array Slot} (hW : zWd D cy ad L K len M H) (hS : va_S (zA ad L s.heap.size) s.heap H locs) (hl : lv_has ls 3 [(0, .ref (ad x0)), (1, .ref (ad x1)), (2, .int x2)]) : W p l e (headSpec wsX6_tryAll ({ frames := 13, cells := 0, slots := 0, locals := 348 } : Room)).room s m args below meth c H locs 0 0 (MQ below (zQr D cy ad L K len r Mr s.heap.size) args s 0 0 (zA ad L s.heap.size)) (F0 m 0 ls []) := by
  obtain ⟨hx, hb, hr, hml, hown, hts, hlocks, hK, hL, hE⟩ := id C0
  have hinX6 : ∀ w ∈ wsX60, w ∈ wsX6_tryAll := by decide +kernel
  unfold f_X6_tryAll_0 at h
  refine lv_aload_n hx hb dX6_tryAll_0 rfl (lv_at hl 0 rfl) ?_
  obtain ⟨g1, h⟩ := zg_some h
  obtain ⟨b2, e3, h⟩ := zb_some h
  refine z_get (own := RX6) (C := RX6) (T := TX6) (N := 7) (ci := 6) hx hb hts hinX6 hown hK hL hW 3 (zK_of g1) rfl (by decide) (by decide) rfl (hts (.fieldLink RX6 29 "ArcLight" "arcs" "LArcLight$ArcKeys;") (by decide +kernel)) (v := .ref (ad b2)) (zhvR e3 rfl) dX6_tryAll_1 ?_
  refine lv_aload_n hx hb dX6_tryAll_4 rfl (lv_at hl 1 rfl) ?_
  refine lv_aload_n hx hb dX6_tryAll_5 rfl (lv_at hl 0 rfl) ?_
  obtain ⟨b4, e5, h⟩ := zb_some h
  refine z_get (own := RX6) (C := RX6) (T := TX6) (N := 7) (ci := 6) hx hb hts hinX6 hown hK hL hW 2 (zK_of g1) rfl (by decide) (by decide) rfl (hts (.fieldLink RX6 22 "ArcLight" "weights" "LArcLight$Weights;") (by decide +kernel)) (v := .ref (ad b4)) (zhvR e5 rfl) dX6_tryAll_6 ?_
  obtain ⟨M8, e7, h⟩ := zb_some h
  obtain ⟨g9, h⟩ := zg_some h
  refine z_callv hS (va_runV (As := [.ref (ad x1), .ref (ad b4)]) (rest := []) ⟨hx, hb, hml, hown, hts⟩ (m_X0_fill l hL N e7 H.size) (cwV 2 hts gX6_tryAll_X0_fill rfl rfl rfl (by decide +kernel) ⟨Nat.le_of_ble_eq_true rfl, Nat.le_of_ble_eq_true rfl⟩) (z_preV (q := (RX0, TX0, 2)) hK hL hE hW hS (zK_of g9) (by decide) rfl [.ref (ad x1), .ref (ad b4)]) rfl rfl hl.1 rfl (lv_room (Nat.le_of_ble_eq_true rfl)) dX6_tryAll_9 ⟨Nat.le_of_ble_eq_true rfl, Nat.le_of_ble_eq_true rfl⟩) (fun H locs hW hS => ?_)
  refine lv_aload_n hx hb dX6_tryAll_12 rfl (lv_at hl 0 rfl) ?_
  obtain ⟨b10, e11, h⟩ := zb_some h
  refine z_get (own := RX6) (C := RX6) (T := TX6) (N := 7) (ci := 6) hx hb hts hinX6 hown hK hL hW 6 (zK_of g1) rfl (by decide) (by decide) rfl (hts (.fieldLink RX6 50 "ArcLight" "trial" "LArcLight$Trial;") (by decide +kernel)) (v := .ref (ad b10)) (zhvR e11 rfl) dX6_tryAll_13 ?_
  refine lv_aload_n hx hb dX6_tryAll_16 rfl (lv_at hl 0 rfl) ?_
  obtain ⟨b12, e13, h⟩ := zb_some h
  refine z_get (own := RX6) (C := RX6) (T := TX6) (N := 7) (ci := 6) hx hb hts hinX6 hown hK hL hW 3 (zK_of g1) rfl (by decide) (by decide) rfl (hts (.fieldLink RX6 29 "ArcLight" "arcs" "LArcLight$ArcKeys;") (by decide +kernel)) (v := .ref (ad b12)) (zhvR e13 rfl) dX6_tryAll_17 ?_
  refine lv_iload_n hx hb dX6_tryAll_20 rfl (lv_at hl 2 rfl) ?_
  obtain ⟨M16, e15, h⟩ := zb_some h
  obtain ⟨g17, h⟩ := zg_some h
  refine z_callv hS (va_runV (As := [.ref (ad b12), .int x2]) (rest := []) ⟨hx, hb, hml, hown, hts⟩ (m_X4_run l hL N e15 H.size) (cwV 2 hts gX6_tryAll_X4_run rfl rfl rfl (by decide +kernel) ⟨Nat.le_of_ble_eq_true rfl, Nat.le_of_ble_eq_true rfl⟩) (z_preV (q := (RX4, TX4, 3)) hK hL hE hW hS (zK_of g17) (by decide) rfl [.ref (ad b12), .int x2]) rfl rfl hl.1 rfl (lv_room (Nat.le_of_ble_eq_true rfl)) dX6_tryAll_21 ⟨Nat.le_of_ble_eq_true rfl, Nat.le_of_ble_eq_true rfl⟩) (fun H locs hW hS => ?_)
  refine lv_aload_n hx hb dX6_tryAll_24 rfl (lv_at hl 0 rfl) ?_
  obtain ⟨b18, e19, h⟩ := zb_some h
  refine z_get (own := RX6) (C := RX6) (T := TX6) (N := 7) (ci := 6) hx hb hts hinX6 hown hK hL hW 6 (zK_of g1) rfl (by decide) (by decide) rfl (hts (.fieldLink RX6 50 "ArcLight" "trial" "LArcLight$Trial;") (by decide +kernel)) (v := .ref (ad b18)) (zhvR e19 rfl) dX6_tryAll_25 ?_
  exact z_aret hx hb hr hlocks hW hS (congrArg Prod.fst (Option.some.inj h)) (congrArg Prod.snd (Option.some.inj h)) dX6_tryAll_28
def f_X6_tryAll (N : Nat) (K len : Nat → Nat) (a0 : Nat) (a1 : Nat) (a2 : Int32) (M : ZM) : Option (Nat × ZM) := f_X6_tryAll_0 N K len a0 a1 a2 M
set_option maxRecDepth 100000 in
set_option maxHeartbeats 4000000 in
theorem m_X6_tryAll (l : Launch) {D : va_G} {cy : Nat → ClassId} {ad : Nat → Nat} {L : List Nat} {K len : Nat → Nat} (hL : zSh ad L K) (N : Nat) {a0 : Nat} {a1 : Nat} {a2 : Int32} {M : ZM} {r : Nat} {Mr : ZM} (h : f_X6_tryAll N K len a0 a1 a2 M = some (r, Mr)) (sz : Nat) : Met l yX6_tryAll wsX6_tryAll ({ frames := 13, cells := 0, slots := 0, locals := 348 } : Room) (zPre D cy ad L K len sz [.ref (ad a0), .ref (ad a1), .int a2] M) (zQr D cy ad L K len r Mr sz) 0 0 (zA ad L sz) :=
  z_entry (Qf := fun sz => zQr D cy ad L K len r Mr sz) (av := [.ref (ad a0), .ref (ad a1), .int a2]) (by decide) rfl rfl hL (Nat.le_of_ble_eq_true rfl) (fun p e s m args below meth c C0 H locs ls hW hS hl => t_X6_tryAll_0 C0 N h hW hS (lv_sub hl [0, 1, 2] rfl))
def f_X6_bestKey_41 (N : Nat) (K len : Nat → Nat) (s0 : Int64) (M : ZM) : Option ((Nat ⊕ Int64) × ZM) :=
(f_X6_checkTree N s0).bind fun q1 => (
zx q1 (fun k => some (Sum.inl k, M)) fun r3 => (
some (Sum.inr s0, M)))
set_option maxRecDepth 100000 in
set_option maxHeartbeats 4000000 in
theorem t_X6_bestKey_41 {p : Program} {l : Launch} {e : Env} {s : State} {m : MethodId} {args : Array Value} {below : List Frame} {meth : Method} {c : Code} {D : va_G} {cy : Nat → ClassId} {ad : Nat → Nat} {L : List Nat} {K len : Nat → Nat} (C0 : zCxX p l s m c meth args cX6_bestKey 5 wsX6_bestKey RX6 (some .long) D cy ad L K) (N : Nat) {s0 : Int64} {M : ZM} {o : Nat ⊕ Int64} {Mr : ZM} (h : f_X6_bestKey_41 N K len s0 M = some (o, Mr)) {H : Heap} {locs : List Loc} {ls : Array Slot} (hW : zWd D cy ad L K len M H) (hS : va_S (zA ad L s.heap.size) s.heap H locs) (hl : lv_has ls 5 []) : W p l e (headSpec wsX6_bestKey ({ frames := 7, cells := 1, slots := 6, locals := 111 } : Room)).room s m args below meth c H locs 0 0 (vx_MQ below (zY D cy ad L K len zvJ o Mr s.heap.size) (zX D cy ad L K len o Mr s.heap.size) args s 1 6 (zA ad L s.heap.size)) (F0 m 41 ls [.long s0]) := by
  obtain ⟨⟨hx, hb, hr, hml, hown, hts, hlocks, hK, hL, hE⟩, hlt, hex⟩ := id C0
  unfold f_X6_bestKey_41 at h
  refine lv_lstore_n (lv' := [(3, .long s0)]) hx hb dX6_bestKey_41 rfl hl (by decide) rfl (fun ls hl => ?_)
  refine lv_lload_n hx hb dX6_bestKey_42 rfl (lv_at hl 0 rfl) ?_
  obtain ⟨q1, e2, h⟩ := zb_some h
  refine z_xcallv hS (vx_runS (As := [.long s0]) (rest := []) ⟨hx, hb, hml, hown, hts⟩ (m_X6_checkTree l hlt (M := M) hL N e2 H.size) (va_cwS 1 hts gX6_bestKey_X6_checkTree rfl rfl rfl (by decide +kernel) ⟨Nat.le_of_ble_eq_true rfl, Nat.le_of_ble_eq_true rfl⟩) (z_preS hK hE hW hS [.long s0]) rfl rfl hl.1 rfl (lv_room (Nat.le_of_ble_eq_true rfl)) dX6_bestKey_43 ⟨Nat.le_of_ble_eq_true rfl, Nat.le_of_ble_eq_true rfl⟩) (fun k hk H locs q9 ce hW hS hce hcv hcl => by subst hk; have h := zx_l h; exact z_xout hex hlocks (congrArg Prod.fst (Option.some.inj h)).symm (congrArg Prod.snd (Option.some.inj h)) hW hS hce hcv hcl (Nat.le_of_ble_eq_true rfl) (Nat.le_of_ble_eq_true rfl)) (fun r3 hk H locs hW hS => ?_)
  subst hk
  have h := zx_r h
  refine lv_lload_n hx hb dX6_bestKey_46 rfl (lv_at hl 0 rfl) ?_
  exact z_xlret hx hb hr hlocks hW hS (congrArg Prod.fst (Option.some.inj h)) (congrArg Prod.snd (Option.some.inj h)) dX6_bestKey_47 (Nat.le_of_ble_eq_true rfl) (Nat.le_of_ble_eq_true rfl)
def f_X6_bestKey_0 (N : Nat) (K len : Nat → Nat) (x0 : Nat) (x1 : Nat) (x2 : Int32) (M : ZM) : Option ((Nat ⊕ Int64) × ZM) :=
zg (K x0 == 7) (
(zR M x0 3).bind fun b2 => (
(zR M x0 2).bind fun b4 => (
(f_X0_fill N K len b2 x1 b4 M).bind fun M8 => (
zg (K b2 == 1) (
(if x2 = 0 then
(zR M8 x0 4).bind fun b11 => (
(zR M8 x0 3).bind fun b13 => (
zbp (f_X3_greatest N K len b11 b13 M8) fun q15 M17 => (
zg (K b11 == 4) (
f_X6_bestKey_41 N K len  q15 M17))))
else
(zR M8 x0 5).bind fun b19 => (
(zR M8 x0 3).bind fun b21 => (
zbp (f_X1_greatest N K len b19 b21 M8) fun q23 M25 => (
zg (K b19 == 2) (
f_X6_bestKey_41 N K len  q23 M25))))))))))
set_option maxRecDepth 100000 in
set_option maxHeartbeats 4000000 in
theorem t_X6_bestKey_0 {p : Program} {l : Launch} {e : Env} {s : State} {m : MethodId} {args : Array Value} {below : List Frame} {meth : Method} {c : Code} {D : va_G} {cy : Nat → ClassId} {ad : Nat → Nat} {L : List Nat} {K len : Nat → Nat} (C0 : zCxX p l s m c meth args cX6_bestKey 5 wsX6_bestKey RX6 (some .long) D cy ad L K) (N : Nat) {x0 : Nat} {x1 : Nat} {x2 : Int32} {M : ZM} {o : Nat ⊕ Int64} {Mr : ZM} (h : f_X6_bestKey_0 N K len x0 x1 x2 M = some (o, Mr)) {H : Heap} {locs : List Loc} {ls : Array Slot} (hW : zWd D cy ad L K len M H) (hS : va_S (zA ad L s.heap.size) s.heap H locs) (hl : lv_has ls 5 [(0, .ref (ad x0)), (1, .ref (ad x1)), (2, .int x2)]) : W p l e (headSpec wsX6_bestKey ({ frames := 7, cells := 1, slots := 6, locals := 111 } : Room)).room s m args below meth c H locs 0 0 (vx_MQ below (zY D cy ad L K len zvJ o Mr s.heap.size) (zX D cy ad L K len o Mr s.heap.size) args s 1 6 (zA ad L s.heap.size)) (F0 m 0 ls []) := by
  obtain ⟨⟨hx, hb, hr, hml, hown, hts, hlocks, hK, hL, hE⟩, hlt, hex⟩ := id C0
  have hinX6 : ∀ w ∈ wsX60, w ∈ wsX6_bestKey := by decide +kernel
  unfold f_X6_bestKey_0 at h
  refine lv_aload_n hx hb dX6_bestKey_0 rfl (lv_at hl 0 rfl) ?_
  obtain ⟨g1, h⟩ := zg_some h
  obtain ⟨b2, e3, h⟩ := zb_some h
  refine z_get (own := RX6) (C := RX6) (T := TX6) (N := 7) (ci := 6) hx hb hts hinX6 hown hK hL hW 3 (zK_of g1) rfl (by decide) (by decide) rfl (hts (.fieldLink RX6 29 "ArcLight" "arcs" "LArcLight$ArcKeys;") (by decide +kernel)) (v := .ref (ad b2)) (zhvR e3 rfl) dX6_bestKey_1 ?_
  refine lv_aload_n hx hb dX6_bestKey_4 rfl (lv_at hl 1 rfl) ?_
  refine lv_aload_n hx hb dX6_bestKey_5 rfl (lv_at hl 0 rfl) ?_
  obtain ⟨b4, e5, h⟩ := zb_some h
  refine z_get (own := RX6) (C := RX6) (T := TX6) (N := 7) (ci := 6) hx hb hts hinX6 hown hK hL hW 2 (zK_of g1) rfl (by decide) (by decide) rfl (hts (.fieldLink RX6 22 "ArcLight" "weights" "LArcLight$Weights;") (by decide +kernel)) (v := .ref (ad b4)) (zhvR e5 rfl) dX6_bestKey_6 ?_
  obtain ⟨M8, e7, h⟩ := zb_some h
  obtain ⟨g9, h⟩ := zg_some h
  refine z_callv hS (va_runV (As := [.ref (ad x1), .ref (ad b4)]) (rest := []) ⟨hx, hb, hml, hown, hts⟩ (m_X0_fill l hL N e7 H.size) (cwV 2 hts gX6_bestKey_X0_fill rfl rfl rfl (by decide +kernel) ⟨Nat.le_of_ble_eq_true rfl, Nat.le_of_ble_eq_true rfl⟩) (z_preV (q := (RX0, TX0, 2)) hK hL hE hW hS (zK_of g9) (by decide) rfl [.ref (ad x1), .ref (ad b4)]) rfl rfl hl.1 rfl (lv_room (Nat.le_of_ble_eq_true rfl)) dX6_bestKey_9 ⟨Nat.le_of_ble_eq_true rfl, Nat.le_of_ble_eq_true rfl⟩) (fun H locs hW hS => ?_)
  refine lv_iload_n hx hb dX6_bestKey_12 rfl (lv_at hl 2 rfl) ?_
  refine lv_if_eq (tgt := 30) hx hb dX6_bestKey_13 (by decide) (fun c10 => ?_) (fun c10 => ?_)
  · have h := zip c10 h
    refine lv_aload_n hx hb dX6_bestKey_30 rfl (lv_at hl 0 rfl) ?_
    obtain ⟨b11, e12, h⟩ := zb_some h
    refine z_get (own := RX6) (C := RX6) (T := TX6) (N := 7) (ci := 6) hx hb hts hinX6 hown hK hL hW 4 (zK_of g1) rfl (by decide) (by decide) rfl (hts (.fieldLink RX6 36 "ArcLight" "spans" "LArcLight$Spans;") (by decide +kernel)) (v := .ref (ad b11)) (zhvR e12 rfl) dX6_bestKey_31 ?_
    refine lv_aload_n hx hb dX6_bestKey_34 rfl (lv_at hl 0 rfl) ?_
    obtain ⟨b13, e14, h⟩ := zb_some h
    refine z_get (own := RX6) (C := RX6) (T := TX6) (N := 7) (ci := 6) hx hb hts hinX6 hown hK hL hW 3 (zK_of g1) rfl (by decide) (by decide) rfl (hts (.fieldLink RX6 29 "ArcLight" "arcs" "LArcLight$ArcKeys;") (by decide +kernel)) (v := .ref (ad b13)) (zhvR e14 rfl) dX6_bestKey_35 ?_
    obtain ⟨q15, M17, e16, h⟩ := zbp_some h
    obtain ⟨g18, h⟩ := zg_some h
    refine z_calll hS (va_runV (As := [.ref (ad b13)]) (rest := []) ⟨hx, hb, hml, hown, hts⟩ (m_X3_greatest l hL N e16 H.size) (cwV 1 hts gX6_bestKey_X3_greatest rfl rfl rfl (by decide +kernel) ⟨Nat.le_of_ble_eq_true rfl, Nat.le_of_ble_eq_true rfl⟩) (z_preV (q := (RX3, TX3, 4)) hK hL hE hW hS (zK_of g18) (by decide) rfl [.ref (ad b13)]) rfl rfl hl.1 rfl (lv_room (Nat.le_of_ble_eq_true rfl)) dX6_bestKey_38 ⟨Nat.le_of_ble_eq_true rfl, Nat.le_of_ble_eq_true rfl⟩) (fun H locs hW hS => ?_)
    exact t_X6_bestKey_41 C0 N  h hW hS (lv_sub hl [] rfl)
  · have h := zin c10 h
    refine lv_aload_n hx hb dX6_bestKey_16 rfl (lv_at hl 0 rfl) ?_
    obtain ⟨b19, e20, h⟩ := zb_some h
    refine z_get (own := RX6) (C := RX6) (T := TX6) (N := 7) (ci := 6) hx hb hts hinX6 hown hK hL hW 5 (zK_of g1) rfl (by decide) (by decide) rfl (hts (.fieldLink RX6 43 "ArcLight" "circles" "LArcLight$Circles;") (by decide +kernel)) (v := .ref (ad b19)) (zhvR e20 rfl) dX6_bestKey_17 ?_
    refine lv_aload_n hx hb dX6_bestKey_20 rfl (lv_at hl 0 rfl) ?_
    obtain ⟨b21, e22, h⟩ := zb_some h
    refine z_get (own := RX6) (C := RX6) (T := TX6) (N := 7) (ci := 6) hx hb hts hinX6 hown hK hL hW 3 (zK_of g1) rfl (by decide) (by decide) rfl (hts (.fieldLink RX6 29 "ArcLight" "arcs" "LArcLight$ArcKeys;") (by decide +kernel)) (v := .ref (ad b21)) (zhvR e22 rfl) dX6_bestKey_21 ?_
    obtain ⟨q23, M25, e24, h⟩ := zbp_some h
    obtain ⟨g26, h⟩ := zg_some h
    refine z_calll hS (va_runV (As := [.ref (ad b21)]) (rest := []) ⟨hx, hb, hml, hown, hts⟩ (m_X1_greatest l hL N e24 H.size) (cwV 1 hts gX6_bestKey_X1_greatest rfl rfl rfl (by decide +kernel) ⟨Nat.le_of_ble_eq_true rfl, Nat.le_of_ble_eq_true rfl⟩) (z_preV (q := (RX1, TX1, 5)) hK hL hE hW hS (zK_of g26) (by decide) rfl [.ref (ad b21)]) rfl rfl hl.1 rfl (lv_room (Nat.le_of_ble_eq_true rfl)) dX6_bestKey_24 ⟨Nat.le_of_ble_eq_true rfl, Nat.le_of_ble_eq_true rfl⟩) (fun H locs hW hS => ?_)
    refine lv_goto (tgt := 41) hx hb dX6_bestKey_27 (by decide) ?_
    exact t_X6_bestKey_41 C0 N  h hW hS (lv_sub hl [] rfl)
def f_X6_bestKey (N : Nat) (K len : Nat → Nat) (a0 : Nat) (a1 : Nat) (a2 : Int32) (M : ZM) : Option ((Nat ⊕ Int64) × ZM) := f_X6_bestKey_0 N K len a0 a1 a2 M
set_option maxRecDepth 100000 in
set_option maxHeartbeats 4000000 in
theorem m_X6_bestKey (l : Launch) (hlt : l.stackTraces = false) {D : va_G} {cy : Nat → ClassId} {ad : Nat → Nat} {L : List Nat} {K len : Nat → Nat} (hL : zSh ad L K) (N : Nat) {a0 : Nat} {a1 : Nat} {a2 : Int32} {M : ZM} {o : Nat ⊕ Int64} {Mr : ZM} (h : f_X6_bestKey N K len a0 a1 a2 M = some (o, Mr)) (sz : Nat) : vx_Met l yX6_bestKey wsX6_bestKey ({ frames := 7, cells := 1, slots := 6, locals := 111 } : Room) (zPre D cy ad L K len sz [.ref (ad a0), .ref (ad a1), .int a2] M) (zY D cy ad L K len zvJ o Mr sz) (zX D cy ad L K len o Mr sz) 1 6 (zA ad L sz) :=
  z_xentry hlt (Qf := fun sz => zY D cy ad L K len zvJ o Mr sz) (Xf := fun sz => zX D cy ad L K len o Mr sz) (av := [.ref (ad a0), .ref (ad a1), .int a2]) (by decide) rfl rfl hL (Nat.le_of_ble_eq_true rfl) (fun p e s m args below meth c C0 H locs ls hW hS hl => t_X6_bestKey_0 C0 N h hW hS (lv_sub hl [0, 1, 2] rfl))
def f_X6_rankedKey_21 (N : Nat) (K len : Nat → Nat) (M : ZM) : Option ((Nat ⊕ Int64) × ZM) :=
some (Sum.inl 1, M)
set_option maxRecDepth 100000 in
set_option maxHeartbeats 4000000 in
theorem t_X6_rankedKey_21 {p : Program} {l : Launch} {e : Env} {s : State} {m : MethodId} {args : Array Value} {below : List Frame} {meth : Method} {c : Code} {D : va_G} {cy : Nat → ClassId} {ad : Nat → Nat} {L : List Nat} {K len : Nat → Nat} (C0 : zCxX p l s m c meth args cX6_rankedKey 5 wsX6_rankedKey RX6 (some .long) D cy ad L K) (N : Nat) {M : ZM} {o : Nat ⊕ Int64} {Mr : ZM} (h : f_X6_rankedKey_21 N K len M = some (o, Mr)) {H : Heap} {locs : List Loc} {ls : Array Slot} (hW : zWd D cy ad L K len M H) (hS : va_S (zA ad L s.heap.size) s.heap H locs) (hl : lv_has ls 5 []) : W p l e (headSpec wsX6_rankedKey ({ frames := 14, cells := 1, slots := 6, locals := 370 } : Room)).room s m args below meth c H locs 0 0 (vx_MQ below (zY D cy ad L K len zvJ o Mr s.heap.size) (zX D cy ad L K len o Mr s.heap.size) args s 1 6 (zA ad L s.heap.size)) (F0 m 21 ls []) := by
  obtain ⟨⟨hx, hb, hr, hml, hown, hts, hlocks, hK, hL, hE⟩, hlt, hex⟩ := id C0
  unfold f_X6_rankedKey_21 at h
  have hgw : ∀ w ∈ (vx_atS RX6 201 (zexn 1) znames).filter goodWord, w ∈ wsX6_rankedKey := by decide +kernel
  exact z_throw (own := RX6) (k := 1) (ik := 197) (is := 226) (ic := 201) (text := "there are not so many trees") (names := znames) hx hb hlt hown zfit1 znames_fit (hts (.classLink RX6 197 "java/lang/IndexOutOfBoundsException") (by decide +kernel)) (hts (.initialized "java/lang/IndexOutOfBoundsException") (by decide +kernel)) (hE.2.2.2.1 (226, "there are not so many trees") (by decide)) (vx_hat (B := znw) (fun w hw => hts w (hgw w hw)) (by decide +kernel) (znw_use hE.1)) (by decide +kernel) hE hW hS (hl.1.trans hml.symm) dX6_rankedKey_21 dX6_rankedKey_24 dX6_rankedKey_25 dX6_rankedKey_27 dX6_rankedKey_30 hex (congrArg Prod.fst (Option.some.inj h)).symm (congrArg Prod.snd (Option.some.inj h)) (Nat.le_of_ble_eq_true rfl) (Nat.le_of_ble_eq_true rfl) (Nat.le_of_ble_eq_true rfl) (Nat.le_of_ble_eq_true rfl) hlocks (Nat.le_of_ble_eq_true rfl) (Nat.le_of_ble_eq_true rfl)
def f_X6_rankedKey_0 (N : Nat) (K len : Nat → Nat) (x0 : Nat) (x1 : Nat) (x2 : Int32) (x3 : Int32) (M : ZM) : Option ((Nat ⊕ Int64) × ZM) :=
zbp (f_X6_tryAll N K len x0 x1 x2 M) fun q1 M3 => (
zg (K x0 == 7) (
(if x3 < 0 then
f_X6_rankedKey_21 N K len  M3
else
(f_X4_size N K len q1 M3).bind fun q6 => (
zg (K q1 == 5) (
(if x3 < q6 then
(f_X4_ofRank N K len q1 x3 M3).bind fun q10 => (
some (Sum.inr q10, M3))
else
f_X6_rankedKey_21 N K len  M3))))))
set_option maxRecDepth 100000 in
set_option maxHeartbeats 4000000 in
theorem t_X6_rankedKey_0 {p : Program} {l : Launch} {e : Env} {s : State} {m : MethodId} {args : Array Value} {below : List Frame} {meth : Method} {c : Code} {D : va_G} {cy : Nat → ClassId} {ad : Nat → Nat} {L : List Nat} {K len : Nat → Nat} (C0 : zCxX p l s m c meth args cX6_rankedKey 5 wsX6_rankedKey RX6 (some .long) D cy ad L K) (N : Nat) {x0 : Nat} {x1 : Nat} {x2 : Int32} {x3 : Int32} {M : ZM} {o : Nat ⊕ Int64} {Mr : ZM} (h : f_X6_rankedKey_0 N K len x0 x1 x2 x3 M = some (o, Mr)) {H : Heap} {locs : List Loc} {ls : Array Slot} (hW : zWd D cy ad L K len M H) (hS : va_S (zA ad L s.heap.size) s.heap H locs) (hl : lv_has ls 5 [(0, .ref (ad x0)), (1, .ref (ad x1)), (2, .int x2), (3, .int x3)]) : W p l e (headSpec wsX6_rankedKey ({ frames := 14, cells := 1, slots := 6, locals := 370 } : Room)).room s m args below meth c H locs 0 0 (vx_MQ below (zY D cy ad L K len zvJ o Mr s.heap.size) (zX D cy ad L K len o Mr s.heap.size) args s 1 6 (zA ad L s.heap.size)) (F0 m 0 ls []) := by
  obtain ⟨⟨hx, hb, hr, hml, hown, hts, hlocks, hK, hL, hE⟩, hlt, hex⟩ := id C0
  unfold f_X6_rankedKey_0 at h
  refine lv_aload_n hx hb dX6_rankedKey_0 rfl (lv_at hl 0 rfl) ?_
  refine lv_aload_n hx hb dX6_rankedKey_1 rfl (lv_at hl 1 rfl) ?_
  refine lv_iload_n hx hb dX6_rankedKey_2 rfl (lv_at hl 2 rfl) ?_
  obtain ⟨q1, M3, e2, h⟩ := zbp_some h
  obtain ⟨g4, h⟩ := zg_some h
  refine z_callr hS (va_runV (As := [.ref (ad x1), .int x2]) (rest := []) ⟨hx, hb, hml, hown, hts⟩ (m_X6_tryAll l hL N e2 H.size) (cwV 2 hts gX6_rankedKey_X6_tryAll rfl rfl rfl (by decide +kernel) ⟨Nat.le_of_ble_eq_true rfl, Nat.le_of_ble_eq_true rfl⟩) (z_preV (q := (RX6, TX6, 7)) hK hL hE hW hS (zK_of g4) (by decide) rfl [.ref (ad x1), .int x2]) rfl rfl hl.1 rfl (lv_room (Nat.le_of_ble_eq_true rfl)) dX6_rankedKey_3 ⟨Nat.le_of_ble_eq_true rfl, Nat.le_of_ble_eq_true rfl⟩) (fun H locs hW hS => ?_)
  refine lv_astore (lv' := [(4, .ref (ad q1)), (0, .ref (ad x0)), (1, .ref (ad x1)), (2, .int x2), (3, .int x3)]) hx hb dX6_rankedKey_6 hl (by decide) rfl (fun ls hl => ?_)
  refine lv_iload_n hx hb dX6_rankedKey_8 rfl (lv_at hl 4 rfl) ?_
  refine lv_if_lt (tgt := 21) hx hb dX6_rankedKey_9 (by decide) (fun c5 => ?_) (fun c5 => ?_)
  · have h := zip c5 h
    exact t_X6_rankedKey_21 C0 N  h hW hS (lv_sub hl [] rfl)
  · have h := zin c5 h
    refine lv_iload_n hx hb dX6_rankedKey_12 rfl (lv_at hl 4 rfl) ?_
    refine lv_aload hx hb dX6_rankedKey_13 (lv_at hl 0 rfl) ?_
    obtain ⟨q6, e7, h⟩ := zb_some h
    obtain ⟨g8, h⟩ := zg_some h
    refine z_calli hS (va_runV (As := []) (rest := [.int x3]) ⟨hx, hb, hml, hown, hts⟩ (m_X4_size l hL N e7 H.size) (cwV 0 hts gX6_rankedKey_X4_size rfl rfl rfl (by decide +kernel) ⟨Nat.le_of_ble_eq_true rfl, Nat.le_of_ble_eq_true rfl⟩) (z_preV (q := (RX4, TX4, 3)) hK hL hE hW hS (zK_of g8) (by decide) rfl []) rfl rfl hl.1 rfl (lv_room (Nat.le_of_ble_eq_true rfl)) dX6_rankedKey_15 ⟨Nat.le_of_ble_eq_true rfl, Nat.le_of_ble_eq_true rfl⟩) (fun H locs hW hS => ?_)
    refine lv_icmp_lt (tgt := 31) hx hb dX6_rankedKey_18 (by decide) (fun c9 => ?_) (fun c9 => ?_)
    · have h := zip c9 h
      refine lv_aload hx hb dX6_rankedKey_31 (lv_at hl 0 rfl) ?_
      refine lv_iload_n hx hb dX6_rankedKey_33 rfl (lv_at hl 4 rfl) ?_
      obtain ⟨q10, e11, h⟩ := zb_some h
      refine z_calll hS (va_runV (As := [.int x3]) (rest := []) ⟨hx, hb, hml, hown, hts⟩ (m_X4_ofRank l hL N e11 H.size) (cwV 1 hts gX6_rankedKey_X4_ofRank rfl rfl rfl (by decide +kernel) ⟨Nat.le_of_ble_eq_true rfl, Nat.le_of_ble_eq_true rfl⟩) (z_preV (q := (RX4, TX4, 3)) hK hL hE hW hS (zK_of g8) (by decide) rfl [.int x3]) rfl rfl hl.1 rfl (lv_room (Nat.le_of_ble_eq_true rfl)) dX6_rankedKey_34 ⟨Nat.le_of_ble_eq_true rfl, Nat.le_of_ble_eq_true rfl⟩) (fun H locs hW hS => ?_)
      exact z_xlret hx hb hr hlocks hW hS (congrArg Prod.fst (Option.some.inj h)) (congrArg Prod.snd (Option.some.inj h)) dX6_rankedKey_37 (Nat.le_of_ble_eq_true rfl) (Nat.le_of_ble_eq_true rfl)
    · have h := zin c9 h
      exact t_X6_rankedKey_21 C0 N  h hW hS (lv_sub hl [] rfl)
def f_X6_rankedKey (N : Nat) (K len : Nat → Nat) (a0 : Nat) (a1 : Nat) (a2 : Int32) (a3 : Int32) (M : ZM) : Option ((Nat ⊕ Int64) × ZM) := f_X6_rankedKey_0 N K len a0 a1 a2 a3 M
set_option maxRecDepth 100000 in
set_option maxHeartbeats 4000000 in
theorem m_X6_rankedKey (l : Launch) (hlt : l.stackTraces = false) {D : va_G} {cy : Nat → ClassId} {ad : Nat → Nat} {L : List Nat} {K len : Nat → Nat} (hL : zSh ad L K) (N : Nat) {a0 : Nat} {a1 : Nat} {a2 : Int32} {a3 : Int32} {M : ZM} {o : Nat ⊕ Int64} {Mr : ZM} (h : f_X6_rankedKey N K len a0 a1 a2 a3 M = some (o, Mr)) (sz : Nat) : vx_Met l yX6_rankedKey wsX6_rankedKey ({ frames := 14, cells := 1, slots := 6, locals := 370 } : Room) (zPre D cy ad L K len sz [.ref (ad a0), .ref (ad a1), .int a2, .int a3] M) (zY D cy ad L K len zvJ o Mr sz) (zX D cy ad L K len o Mr sz) 1 6 (zA ad L sz) :=
  z_xentry hlt (Qf := fun sz => zY D cy ad L K len zvJ o Mr sz) (Xf := fun sz => zX D cy ad L K len o Mr sz) (av := [.ref (ad a0), .ref (ad a1), .int a2, .int a3]) (by decide) rfl rfl hL (Nat.le_of_ble_eq_true rfl) (fun p e s m args below meth c C0 H locs ls hW hS hl => t_X6_rankedKey_0 C0 N h hW hS (lv_sub hl [0, 1, 2, 3] rfl))

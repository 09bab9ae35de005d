/-! Walks laid by program (wip/whole/gen): X7_thrown, X7_fails, X7_asks, X7_changed, X7_isSentence, X7_isWord, X7_isPlace, X7_addSentence, X7_addWord, X7_sentences, X7_words, X7_kind, X7_remembers, X7_setWeight, X7_weight, X7_byKind, X7_byDistance, X7_scoreOf, X7_asksArc, X7_feature, X7_score, X7_arc, X7_mark -/
def f_X7_thrown_0 (N : Nat) (K len : Nat → Nat) (x0 : Nat) (M : ZM) : Option (Int32) :=
zg (K x0 == 8) (
some (zI M x0 19))
set_option maxRecDepth 100000 in
set_option maxHeartbeats 4000000 in
theorem t_X7_thrown_0 {p : Program} {l : Launch} {e : Env} {s : State} {m : MethodId} {args : Array Value} {below : List Frame} {meth : Method} {c : Code} {D : va_G} {cy : Nat → ClassId} {ad : Nat → Nat} {L : List Nat} {K len : Nat → Nat} (C0 : zCx p s m c meth args cX7_thrown 1 wsX7_thrown RX7 (some .int) D cy ad L K) (N : Nat) {x0 : Nat} {M : ZM} {r : Int32} (h : f_X7_thrown_0 N K len x0 M = some r) {H : Heap} {locs : List Loc} {ls : Array Slot} (hW : zWd D cy ad L K len M H) (hS : va_S (zA ad L s.heap.size) s.heap H locs) (hl : lv_has ls 1 [(0, .ref (ad x0))]) : W p l e (headSpec wsX7_thrown ({ frames := 0, cells := 0, slots := 0, locals := 0 } : Room)).room s m args below meth c H locs 0 0 (MQ below (zQi D cy ad L K len r M s.heap.size) args s 0 0 (zA ad L s.heap.size)) (F0 m 0 ls []) := by
  obtain ⟨hx, hb, hr, hml, hown, hts, hlocks, hK, hL, hE⟩ := id C0
  have hinX7 : ∀ w ∈ wsX70, w ∈ wsX7_thrown := by decide +kernel
  unfold f_X7_thrown_0 at h
  refine lv_aload_n hx hb dX7_thrown_0 rfl (lv_at hl 0 rfl) ?_
  obtain ⟨g1, h⟩ := zg_some h
  refine z_get (own := RX7) (C := RX7) (T := TX7) (N := 20) (ci := 7) hx hb hts hinX7 hown hK hL hW 19 (zK_of g1) rfl (by decide) (by decide) rfl (hts (.fieldLink RX7 55 "ArcLightModel" "thrown" "I") (by decide +kernel)) (v := .int (zI M x0 19)) rfl dX7_thrown_1 ?_
  exact z_iret hx hb hr hlocks hW hS (Option.some.inj h) rfl dX7_thrown_4
def f_X7_thrown (N : Nat) (K len : Nat → Nat) (a0 : Nat) (M : ZM) : Option (Int32) := f_X7_thrown_0 N K len a0 M
set_option maxRecDepth 100000 in
set_option maxHeartbeats 4000000 in
theorem m_X7_thrown (l : Launch) {D : va_G} {cy : Nat → ClassId} {ad : Nat → Nat} {L : List Nat} {K len : Nat → Nat} (hL : zSh ad L K) (N : Nat) {a0 : Nat} {M : ZM} {r : Int32} (h : f_X7_thrown N K len a0 M = some r) (sz : Nat) : Met l yX7_thrown wsX7_thrown ({ frames := 0, cells := 0, slots := 0, locals := 0 } : Room) (zPre D cy ad L K len sz [.ref (ad a0)] M) (zQi D cy ad L K len r M sz) 0 0 (zA ad L sz) :=
  z_entry (Qf := fun sz => zQi D cy ad L K len r M sz) (av := [.ref (ad a0)]) (by decide) rfl rfl hL (Nat.le_of_ble_eq_true rfl) (fun p e s m args below meth c C0 H locs ls hW hS hl => t_X7_thrown_0 C0 N h hW hS (lv_sub hl [0] rfl))
def f_X7_fails_0 (N : Nat) (K len : Nat → Nat) (x0 : Nat) (x1 : Int32) (M : ZM) : Option (Int32 × ZM) :=
zg (K x0 == 8) (
zl (zsI M x0 19 x1) fun M2 => (
some ((0 : Int32), M2)))
set_option maxRecDepth 100000 in
set_option maxHeartbeats 4000000 in
theorem t_X7_fails_0 {p : Program} {l : Launch} {e : Env} {s : State} {m : MethodId} {args : Array Value} {below : List Frame} {meth : Method} {c : Code} {D : va_G} {cy : Nat → ClassId} {ad : Nat → Nat} {L : List Nat} {K len : Nat → Nat} (C0 : zCx p s m c meth args cX7_fails 2 wsX7_fails RX7 (some .int) D cy ad L K) (N : Nat) {x0 : Nat} {x1 : Int32} {M : ZM} {r : Int32} {Mr : ZM} (h : f_X7_fails_0 N K len x0 x1 M = some (r, Mr)) {H : Heap} {locs : List Loc} {ls : Array Slot} (hW : zWd D cy ad L K len M H) (hS : va_S (zA ad L s.heap.size) s.heap H locs) (hl : lv_has ls 2 [(0, .ref (ad x0)), (1, .int x1)]) : W p l e (headSpec wsX7_fails ({ frames := 0, cells := 0, slots := 0, locals := 0 } : Room)).room s m args below meth c H locs 0 0 (MQ below (zQi D cy ad L K len r Mr s.heap.size) args s 0 0 (zA ad L s.heap.size)) (F0 m 0 ls []) := by
  obtain ⟨hx, hb, hr, hml, hown, hts, hlocks, hK, hL, hE⟩ := id C0
  have hinX7 : ∀ w ∈ wsX70, w ∈ wsX7_fails := by decide +kernel
  unfold f_X7_fails_0 at h
  refine lv_aload_n hx hb dX7_fails_0 rfl (lv_at hl 0 rfl) ?_
  refine lv_iload_n hx hb dX7_fails_1 rfl (lv_at hl 1 rfl) ?_
  obtain ⟨g1, h⟩ := zg_some h
  refine z_put (own := RX7) (C := RX7) (T := TX7) (N := 20) (ci := 7) (v := .int x1) (M' := zsI M x0 19 x1) hx hb hts hinX7 tyX7 tyX7_ok nmX7 hown hK hL hW hS 19 (zK_of g1) rfl (by decide) (by decide) rfl (hts (.fieldLink RX7 55 "ArcLightModel" "thrown" "I") (by decide +kernel)) rfl (ty := .int) (by decide +kernel) rfl rfl (Nat.le_of_ble_eq_true rfl) dX7_fails_2 (zM_I (zK_of g1) (by decide) rfl) (fun H locs hW hS => ?_)
  obtain ⟨M2, eM3, h⟩ := zl_some h
  rw [← eM3] at hW
  refine lv_iconst (v := 0) hx hb dX7_fails_5 (by decide) ?_
  exact z_iret hx hb hr hlocks hW hS (congrArg Prod.fst (Option.some.inj h)) (congrArg Prod.snd (Option.some.inj h)) dX7_fails_6
def f_X7_fails (N : Nat) (K len : Nat → Nat) (a0 : Nat) (a1 : Int32) (M : ZM) : Option (Int32 × ZM) := f_X7_fails_0 N K len a0 a1 M
set_option maxRecDepth 100000 in
set_option maxHeartbeats 4000000 in
theorem m_X7_fails (l : Launch) {D : va_G} {cy : Nat → ClassId} {ad : Nat → Nat} {L : List Nat} {K len : Nat → Nat} (hL : zSh ad L K) (N : Nat) {a0 : Nat} {a1 : Int32} {M : ZM} {r : Int32} {Mr : ZM} (h : f_X7_fails N K len a0 a1 M = some (r, Mr)) (sz : Nat) : Met l yX7_fails wsX7_fails ({ frames := 0, cells := 0, slots := 0, locals := 0 } : Room) (zPre D cy ad L K len sz [.ref (ad a0), .int a1] M) (zQi D cy ad L K len r Mr sz) 0 0 (zA ad L sz) :=
  z_entry (Qf := fun sz => zQi D cy ad L K len r Mr sz) (av := [.ref (ad a0), .int a1]) (by decide) rfl rfl hL (Nat.le_of_ble_eq_true rfl) (fun p e s m args below meth c C0 H locs ls hW hS hl => t_X7_fails_0 C0 N h hW hS (lv_sub hl [0, 1] rfl))
def f_X7_asks_10 (N : Nat) (K len : Nat → Nat) (x1 : Int32) (s0 : Int32) (s1 : Nat) (M : ZM) : Option (Int32 × ZM) :=
zg (K s1 == 8) (
zl (zsI M s1 19 s0) fun M2 => (
zg (zbo x1) (
some (x1, M2))))
set_option maxRecDepth 100000 in
set_option maxHeartbeats 4000000 in
theorem t_X7_asks_10 {p : Program} {l : Launch} {e : Env} {s : State} {m : MethodId} {args : Array Value} {below : List Frame} {meth : Method} {c : Code} {D : va_G} {cy : Nat → ClassId} {ad : Nat → Nat} {L : List Nat} {K len : Nat → Nat} (C0 : zCx p s m c meth args cX7_asks 2 wsX7_asks RX7 (some .boolean) D cy ad L K) (N : Nat) {x1 : Int32} {s0 : Int32} {s1 : Nat} {M : ZM} {r : Int32} {Mr : ZM} (h : f_X7_asks_10 N K len x1 s0 s1 M = some (r, Mr)) {H : Heap} {locs : List Loc} {ls : Array Slot} (hW : zWd D cy ad L K len M H) (hS : va_S (zA ad L s.heap.size) s.heap H locs) (hl : lv_has ls 2 [(1, .int x1)]) : W p l e (headSpec wsX7_asks ({ frames := 0, cells := 0, slots := 0, locals := 0 } : Room)).room s m args below meth c H locs 0 0 (MQ below (zQi D cy ad L K len r Mr s.heap.size) args s 0 0 (zA ad L s.heap.size)) (F0 m 10 ls [.int s0, .ref (ad s1)]) := by
  obtain ⟨hx, hb, hr, hml, hown, hts, hlocks, hK, hL, hE⟩ := id C0
  have hinX7 : ∀ w ∈ wsX70, w ∈ wsX7_asks := by decide +kernel
  unfold f_X7_asks_10 at h
  obtain ⟨g1, h⟩ := zg_some h
  refine z_put (own := RX7) (C := RX7) (T := TX7) (N := 20) (ci := 7) (v := .int s0) (M' := zsI M s1 19 s0) hx hb hts hinX7 tyX7 tyX7_ok nmX7 hown hK hL hW hS 19 (zK_of g1) rfl (by decide) (by decide) rfl (hts (.fieldLink RX7 55 "ArcLightModel" "thrown" "I") (by decide +kernel)) rfl (ty := .int) (by decide +kernel) rfl rfl (Nat.le_of_ble_eq_true rfl) dX7_asks_10 (zM_I (zK_of g1) (by decide) rfl) (fun H locs hW hS => ?_)
  obtain ⟨M2, eM3, h⟩ := zl_some h
  rw [← eM3] at hW
  refine lv_iload_n hx hb dX7_asks_13 rfl (lv_at hl 0 rfl) ?_
  obtain ⟨g4, h⟩ := zg_some h
  exact z_zret hx hb hr hlocks hW hS g4 (congrArg Prod.fst (Option.some.inj h)) (congrArg Prod.snd (Option.some.inj h)) dX7_asks_14
def f_X7_asks_0 (N : Nat) (K len : Nat → Nat) (x0 : Nat) (x1 : Int32) (M : ZM) : Option (Int32 × ZM) :=
(if x1 = 0 then
f_X7_asks_10 N K len  x1 (1 : Int32) x0 M
else
f_X7_asks_10 N K len  x1 (0 : Int32) x0 M)
set_option maxRecDepth 100000 in
set_option maxHeartbeats 4000000 in
theorem t_X7_asks_0 {p : Program} {l : Launch} {e : Env} {s : State} {m : MethodId} {args : Array Value} {below : List Frame} {meth : Method} {c : Code} {D : va_G} {cy : Nat → ClassId} {ad : Nat → Nat} {L : List Nat} {K len : Nat → Nat} (C0 : zCx p s m c meth args cX7_asks 2 wsX7_asks RX7 (some .boolean) D cy ad L K) (N : Nat) {x0 : Nat} {x1 : Int32} {M : ZM} {r : Int32} {Mr : ZM} (h : f_X7_asks_0 N K len x0 x1 M = some (r, Mr)) {H : Heap} {locs : List Loc} {ls : Array Slot} (hW : zWd D cy ad L K len M H) (hS : va_S (zA ad L s.heap.size) s.heap H locs) (hl : lv_has ls 2 [(0, .ref (ad x0)), (1, .int x1)]) : W p l e (headSpec wsX7_asks ({ frames := 0, cells := 0, slots := 0, locals := 0 } : Room)).room s m args below meth c H locs 0 0 (MQ below (zQi D cy ad L K len r Mr s.heap.size) args s 0 0 (zA ad L s.heap.size)) (F0 m 0 ls []) := by
  obtain ⟨hx, hb, hr, hml, hown, hts, hlocks, hK, hL, hE⟩ := id C0
  unfold f_X7_asks_0 at h
  refine lv_aload_n hx hb dX7_asks_0 rfl (lv_at hl 0 rfl) ?_
  refine lv_iload_n hx hb dX7_asks_1 rfl (lv_at hl 1 rfl) ?_
  refine lv_if_eq (tgt := 9) hx hb dX7_asks_2 (by decide) (fun c1 => ?_) (fun c1 => ?_)
  · have h := zip c1 h
    refine lv_iconst (v := 1) hx hb dX7_asks_9 (by decide) ?_
    exact t_X7_asks_10 C0 N  h hW hS (lv_sub hl [1] rfl)
  · have h := zin c1 h
    refine lv_iconst (v := 0) hx hb dX7_asks_5 (by decide) ?_
    refine lv_goto (tgt := 10) hx hb dX7_asks_6 (by decide) ?_
    exact t_X7_asks_10 C0 N  h hW hS (lv_sub hl [1] rfl)
def f_X7_asks (N : Nat) (K len : Nat → Nat) (a0 : Nat) (a1 : Int32) (M : ZM) : Option (Int32 × ZM) := f_X7_asks_0 N K len a0 a1 M
set_option maxRecDepth 100000 in
set_option maxHeartbeats 4000000 in
theorem m_X7_asks (l : Launch) {D : va_G} {cy : Nat → ClassId} {ad : Nat → Nat} {L : List Nat} {K len : Nat → Nat} (hL : zSh ad L K) (N : Nat) {a0 : Nat} {a1 : Int32} {M : ZM} {r : Int32} {Mr : ZM} (h : f_X7_asks N K len a0 a1 M = some (r, Mr)) (sz : Nat) : Met l yX7_asks wsX7_asks ({ frames := 0, cells := 0, slots := 0, locals := 0 } : Room) (zPre D cy ad L K len sz [.ref (ad a0), .int a1] M) (zQi D cy ad L K len r Mr sz) 0 0 (zA ad L sz) :=
  z_entry (Qf := fun sz => zQi D cy ad L K len r Mr sz) (av := [.ref (ad a0), .int a1]) (by decide) rfl rfl hL (Nat.le_of_ble_eq_true rfl) (fun p e s m args below meth c C0 H locs ls hW hS hl => t_X7_asks_0 C0 N h hW hS (lv_sub hl [0, 1] rfl))
def f_X7_changed_7 (N : Nat) (K len : Nat → Nat) : Nat → Nat → Int32 → ZM → Option (ZM)
  | 0, _, _, _ => none
  | n + 1, x0, x1, M =>
    (if (10 : Int32) ≤ x1 then
    some M
    else
    zg (K x0 == 8) (
    (zR M x0 17).bind fun b3 => (
    zg (zok K len b3 13 x1) (
    zl (zsI M b3 x1.toNatClampNeg (0 : Int32)) fun M6 => (
    f_X7_changed_7 N K len  n x0 (x1 + 1) M6)))))
set_option maxRecDepth 100000 in
set_option maxHeartbeats 4000000 in
theorem t_X7_changed_7 {p : Program} {l : Launch} {e : Env} {s : State} {m : MethodId} {args : Array Value} {below : List Frame} {meth : Method} {c : Code} {D : va_G} {cy : Nat → ClassId} {ad : Nat → Nat} {L : List Nat} {K len : Nat → Nat} (C0 : zCx p s m c meth args cX7_changed 2 wsX7_changed RX7 none D cy ad L K) (N : Nat) {Mr : ZM} : ∀ (n : Nat) {x0 : Nat} {x1 : Int32} {M : ZM}, f_X7_changed_7 N K len n x0 x1 M = some Mr → ∀ {H : Heap} {locs : List Loc} {ls : Array Slot}, zWd D cy ad L K len M H → va_S (zA ad L s.heap.size) s.heap H locs → lv_has ls 2 [(0, .ref (ad x0)), (1, .int x1)] → W p l e (headSpec wsX7_changed ({ frames := 0, cells := 0, slots := 0, locals := 0 } : Room)).room s m args below meth c H locs 0 0 (MQ below (zQv D cy ad L K len Mr s.heap.size) args s 0 0 (zA ad L s.heap.size)) (F0 m 7 ls []) := by
  obtain ⟨hx, hb, hr, hml, hown, hts, hlocks, hK, hL, hE⟩ := id C0
  have hinX7 : ∀ w ∈ wsX70, w ∈ wsX7_changed := by decide +kernel
  intro n
  induction n with
  | zero =>
    intro x0 x1 M h
    cases (show (none : Option (ZM)) = some Mr from h)
  | succ n ih =>
    intro x0 x1 M h H locs ls hW hS hl
    rw [f_X7_changed_7] at h
    refine lv_iload_n hx hb dX7_changed_7 rfl (lv_at hl 1 rfl) ?_
    refine lv_bipush (v := 10) hx hb dX7_changed_8 (by decide) ?_
    refine lv_icmp_ge (tgt := 26) hx hb dX7_changed_10 (by decide) (fun c1 => ?_) (fun c1 => ?_)
    · have h := zip c1 h
      exact z_vret hx hb hr hlocks hW hS (Option.some.inj h) dX7_changed_26
    · have h := zin c1 h
      refine lv_aload_n hx hb dX7_changed_13 rfl (lv_at hl 0 rfl) ?_
      obtain ⟨g2, h⟩ := zg_some h
      obtain ⟨b3, e4, h⟩ := zb_some h
      refine z_get (own := RX7) (C := RX7) (T := TX7) (N := 20) (ci := 7) hx hb hts hinX7 hown hK hL hW 17 (zK_of g2) rfl (by decide) (by decide) rfl (hts (.fieldLink RX7 48 "ArcLightModel" "isFound" "[Z") (by decide +kernel)) (v := .ref (ad b3)) (zhvR e4 rfl) dX7_changed_14 ?_
      refine lv_iload_n hx hb dX7_changed_17 rfl (lv_at hl 1 rfl) ?_
      refine lv_iconst (v := 0) hx hb dX7_changed_18 (by decide) ?_
      obtain ⟨g5, h⟩ := zg_some h
      refine z_zast hx hb hK hL hW hS g5 (by decide) dX7_changed_19 (fun H locs hW hS => ?_)
      obtain ⟨M6, eM7, h⟩ := zl_some h
      rw [← eM7] at hW
      refine lv_iinc (k := 1) (v := (x1 + 1)) (lv' := [(1, .int (x1 + 1)), (0, .ref (ad x0))]) hx hb dX7_changed_20 hl rfl (by rw [show Int32.ofInt 1 = (1 : Int32) from by decide]) (by decide) rfl (fun ls hl => ?_)
      refine lv_goto (tgt := 7) hx hb dX7_changed_23 (by decide) ?_
      exact ih h hW hS (lv_sub hl [1, 0] rfl)
def f_X7_changed_0 (N : Nat) (K len : Nat → Nat) (x0 : Nat) (M : ZM) : Option (ZM) :=
zg (K x0 == 8) (
zl (zsI M x0 13 (-1 : Int32)) fun M2 => (
f_X7_changed_7 N K len  N x0 (0 : Int32) M2))
set_option maxRecDepth 100000 in
set_option maxHeartbeats 4000000 in
theorem t_X7_changed_0 {p : Program} {l : Launch} {e : Env} {s : State} {m : MethodId} {args : Array Value} {below : List Frame} {meth : Method} {c : Code} {D : va_G} {cy : Nat → ClassId} {ad : Nat → Nat} {L : List Nat} {K len : Nat → Nat} (C0 : zCx p s m c meth args cX7_changed 2 wsX7_changed RX7 none D cy ad L K) (N : Nat) {x0 : Nat} {M : ZM} {Mr : ZM} (h : f_X7_changed_0 N K len x0 M = some Mr) {H : Heap} {locs : List Loc} {ls : Array Slot} (hW : zWd D cy ad L K len M H) (hS : va_S (zA ad L s.heap.size) s.heap H locs) (hl : lv_has ls 2 [(0, .ref (ad x0))]) : W p l e (headSpec wsX7_changed ({ frames := 0, cells := 0, slots := 0, locals := 0 } : Room)).room s m args below meth c H locs 0 0 (MQ below (zQv D cy ad L K len Mr s.heap.size) args s 0 0 (zA ad L s.heap.size)) (F0 m 0 ls []) := by
  obtain ⟨hx, hb, hr, hml, hown, hts, hlocks, hK, hL, hE⟩ := id C0
  have hinX7 : ∀ w ∈ wsX70, w ∈ wsX7_changed := by decide +kernel
  unfold f_X7_changed_0 at h
  refine lv_aload_n hx hb dX7_changed_0 rfl (lv_at hl 0 rfl) ?_
  refine lv_iconst (v := -1) hx hb dX7_changed_1 (by decide) ?_
  obtain ⟨g1, h⟩ := zg_some h
  refine z_put (own := RX7) (C := RX7) (T := TX7) (N := 20) (ci := 7) (v := .int (-1 : Int32)) (M' := zsI M x0 13 (-1 : Int32)) hx hb hts hinX7 tyX7 tyX7_ok nmX7 hown hK hL hW hS 13 (zK_of g1) rfl (by decide) (by decide) rfl (hts (.fieldLink RX7 38 "ArcLightModel" "listed" "I") (by decide +kernel)) rfl (ty := .int) (by decide +kernel) rfl rfl (Nat.le_of_ble_eq_true rfl) dX7_changed_2 (zM_I (zK_of g1) (by decide) rfl) (fun H locs hW hS => ?_)
  obtain ⟨M2, eM3, h⟩ := zl_some h
  rw [← eM3] at hW
  refine lv_iconst (v := 0) hx hb dX7_changed_5 (by decide) ?_
  refine lv_istore_n (lv' := [(1, .int (0 : Int32)), (0, .ref (ad x0))]) hx hb dX7_changed_6 rfl hl (by decide) rfl (fun ls hl => ?_)
  exact t_X7_changed_7 C0 N  N h hW hS (lv_sub hl [1, 0] rfl)
def f_X7_changed (N : Nat) (K len : Nat → Nat) (a0 : Nat) (M : ZM) : Option (ZM) := f_X7_changed_0 N K len a0 M
set_option maxRecDepth 100000 in
set_option maxHeartbeats 4000000 in
theorem m_X7_changed (l : Launch) {D : va_G} {cy : Nat → ClassId} {ad : Nat → Nat} {L : List Nat} {K len : Nat → Nat} (hL : zSh ad L K) (N : Nat) {a0 : Nat} {M : ZM} {Mr : ZM} (h : f_X7_changed N K len a0 M = some Mr) (sz : Nat) : Met l yX7_changed wsX7_changed ({ frames := 0, cells := 0, slots := 0, locals := 0 } : Room) (zPre D cy ad L K len sz [.ref (ad a0)] M) (zQv D cy ad L K len Mr sz) 0 0 (zA ad L sz) :=
  z_entry (Qf := fun sz => zQv D cy ad L K len Mr sz) (av := [.ref (ad a0)]) (by decide) rfl rfl hL (Nat.le_of_ble_eq_true rfl) (fun p e s m args below meth c C0 H locs ls hW hS hl => t_X7_changed_0 C0 N h hW hS (lv_sub hl [0] rfl))
def f_X7_isSentence_0 (N : Nat) (K len : Nat → Nat) (x0 : Nat) (x1 : Int32) (M : ZM) : Option (Int32) :=
(if x1 < 0 then
some (0 : Int32)
else
zg (K x0 == 8) (
(if (zI M x0 0) ≤ x1 then
some (0 : Int32)
else
some (1 : Int32))))
set_option maxRecDepth 100000 in
set_option maxHeartbeats 4000000 in
theorem t_X7_isSentence_0 {p : Program} {l : Launch} {e : Env} {s : State} {m : MethodId} {args : Array Value} {below : List Frame} {meth : Method} {c : Code} {D : va_G} {cy : Nat → ClassId} {ad : Nat → Nat} {L : List Nat} {K len : Nat → Nat} (C0 : zCx p s m c meth args cX7_isSentence 2 wsX7_isSentence RX7 (some .boolean) D cy ad L K) (N : Nat) {x0 : Nat} {x1 : Int32} {M : ZM} {r : Int32} (h : f_X7_isSentence_0 N K len x0 x1 M = some r) {H : Heap} {locs : List Loc} {ls : Array Slot} (hW : zWd D cy ad L K len M H) (hS : va_S (zA ad L s.heap.size) s.heap H locs) (hl : lv_has ls 2 [(0, .ref (ad x0)), (1, .int x1)]) : W p l e (headSpec wsX7_isSentence ({ frames := 0, cells := 0, slots := 0, locals := 0 } : Room)).room s m args below meth c H locs 0 0 (MQ below (zQi D cy ad L K len r M s.heap.size) args s 0 0 (zA ad L s.heap.size)) (F0 m 0 ls []) := by
  obtain ⟨hx, hb, hr, hml, hown, hts, hlocks, hK, hL, hE⟩ := id C0
  have hinX7 : ∀ w ∈ wsX70, w ∈ wsX7_isSentence := by decide +kernel
  unfold f_X7_isSentence_0 at h
  refine lv_iload_n hx hb dX7_isSentence_0 rfl (lv_at hl 1 rfl) ?_
  refine lv_if_lt (tgt := 16) hx hb dX7_isSentence_1 (by decide) (fun c1 => ?_) (fun c1 => ?_)
  · have h := zip c1 h
    refine lv_iconst (v := 0) hx hb dX7_isSentence_16 (by decide) ?_
    exact z_zret hx hb hr hlocks hW hS (by decide) (Option.some.inj h) rfl dX7_isSentence_17
  · have h := zin c1 h
    refine lv_iload_n hx hb dX7_isSentence_4 rfl (lv_at hl 1 rfl) ?_
    refine lv_aload_n hx hb dX7_isSentence_5 rfl (lv_at hl 0 rfl) ?_
    obtain ⟨g2, h⟩ := zg_some h
    refine z_get (own := RX7) (C := RX7) (T := TX7) (N := 20) (ci := 7) hx hb hts hinX7 hown hK hL hW 0 (zK_of g2) rfl (by decide) (by decide) rfl (hts (.fieldLink RX7 58 "ArcLightModel" "sentences" "I") (by decide +kernel)) (v := .int (zI M x0 0)) rfl dX7_isSentence_6 ?_
    refine lv_icmp_ge (tgt := 16) hx hb dX7_isSentence_9 (by decide) (fun c3 => ?_) (fun c3 => ?_)
    · have h := zip c3 h
      refine lv_iconst (v := 0) hx hb dX7_isSentence_16 (by decide) ?_
      exact z_zret hx hb hr hlocks hW hS (by decide) (Option.some.inj h) rfl dX7_isSentence_17
    · have h := zin c3 h
      refine lv_iconst (v := 1) hx hb dX7_isSentence_12 (by decide) ?_
      refine lv_goto (tgt := 17) hx hb dX7_isSentence_13 (by decide) ?_
      exact z_zret hx hb hr hlocks hW hS (by decide) (Option.some.inj h) rfl dX7_isSentence_17
def f_X7_isSentence (N : Nat) (K len : Nat → Nat) (a0 : Nat) (a1 : Int32) (M : ZM) : Option (Int32) := f_X7_isSentence_0 N K len a0 a1 M
set_option maxRecDepth 100000 in
set_option maxHeartbeats 4000000 in
theorem m_X7_isSentence (l : Launch) {D : va_G} {cy : Nat → ClassId} {ad : Nat → Nat} {L : List Nat} {K len : Nat → Nat} (hL : zSh ad L K) (N : Nat) {a0 : Nat} {a1 : Int32} {M : ZM} {r : Int32} (h : f_X7_isSentence N K len a0 a1 M = some r) (sz : Nat) : Met l yX7_isSentence wsX7_isSentence ({ frames := 0, cells := 0, slots := 0, locals := 0 } : Room) (zPre D cy ad L K len sz [.ref (ad a0), .int a1] M) (zQi D cy ad L K len r M sz) 0 0 (zA ad L sz) :=
  z_entry (Qf := fun sz => zQi D cy ad L K len r M sz) (av := [.ref (ad a0), .int a1]) (by decide) rfl rfl hL (Nat.le_of_ble_eq_true rfl) (fun p e s m args below meth c C0 H locs ls hW hS hl => t_X7_isSentence_0 C0 N h hW hS (lv_sub hl [0, 1] rfl))
def f_X7_isWord_0 (N : Nat) (K len : Nat → Nat) (x0 : Nat) (x1 : Int32) (x2 : Int32) (M : ZM) : Option (Int32) :=
(f_X7_isSentence N K len x0 x1 M).bind fun q1 => (
zg (K x0 == 8) (
(if q1 = 0 then
some (0 : Int32)
else
(if x2 ≤ 0 then
some (0 : Int32)
else
(zR M x0 1).bind fun b6 => (
zg (zok K len b6 11 x1) (
(if (zI M b6 x1.toNatClampNeg) < x2 then
some (0 : Int32)
else
some (1 : Int32))))))))
set_option maxRecDepth 100000 in
set_option maxHeartbeats 4000000 in
theorem t_X7_isWord_0 {p : Program} {l : Launch} {e : Env} {s : State} {m : MethodId} {args : Array Value} {below : List Frame} {meth : Method} {c : Code} {D : va_G} {cy : Nat → ClassId} {ad : Nat → Nat} {L : List Nat} {K len : Nat → Nat} (C0 : zCx p s m c meth args cX7_isWord 3 wsX7_isWord RX7 (some .boolean) D cy ad L K) (N : Nat) {x0 : Nat} {x1 : Int32} {x2 : Int32} {M : ZM} {r : Int32} (h : f_X7_isWord_0 N K len x0 x1 x2 M = some r) {H : Heap} {locs : List Loc} {ls : Array Slot} (hW : zWd D cy ad L K len M H) (hS : va_S (zA ad L s.heap.size) s.heap H locs) (hl : lv_has ls 3 [(0, .ref (ad x0)), (1, .int x1), (2, .int x2)]) : W p l e (headSpec wsX7_isWord ({ frames := 1, cells := 0, slots := 0, locals := 21 } : Room)).room s m args below meth c H locs 0 0 (MQ below (zQi D cy ad L K len r M s.heap.size) args s 0 0 (zA ad L s.heap.size)) (F0 m 0 ls []) := by
  obtain ⟨hx, hb, hr, hml, hown, hts, hlocks, hK, hL, hE⟩ := id C0
  have hinX7 : ∀ w ∈ wsX70, w ∈ wsX7_isWord := by decide +kernel
  unfold f_X7_isWord_0 at h
  refine lv_aload_n hx hb dX7_isWord_0 rfl (lv_at hl 0 rfl) ?_
  refine lv_iload_n hx hb dX7_isWord_1 rfl (lv_at hl 1 rfl) ?_
  obtain ⟨q1, e2, h⟩ := zb_some h
  obtain ⟨g3, h⟩ := zg_some h
  refine z_calli hS (va_runV (As := [.int x1]) (rest := []) ⟨hx, hb, hml, hown, hts⟩ (m_X7_isSentence l hL N e2 H.size) (cwV 1 hts gX7_isWord_X7_isSentence rfl rfl rfl (by decide +kernel) ⟨Nat.le_of_ble_eq_true rfl, Nat.le_of_ble_eq_true rfl⟩) (z_preV (q := (RX7, TX7, 20)) hK hL hE hW hS (zK_of g3) (by decide) rfl [.int x1]) rfl rfl hl.1 rfl (lv_room (Nat.le_of_ble_eq_true rfl)) dX7_isWord_2 ⟨Nat.le_of_ble_eq_true rfl, Nat.le_of_ble_eq_true rfl⟩) (fun H locs hW hS => ?_)
  refine lv_if_eq (tgt := 26) hx hb dX7_isWord_5 (by decide) (fun c4 => ?_) (fun c4 => ?_)
  · have h := zip c4 h
    refine lv_iconst (v := 0) hx hb dX7_isWord_26 (by decide) ?_
    exact z_zret hx hb hr hlocks hW hS (by decide) (Option.some.inj h) rfl dX7_isWord_27
  · have h := zin c4 h
    refine lv_iload_n hx hb dX7_isWord_8 rfl (lv_at hl 2 rfl) ?_
    refine lv_if_le (tgt := 26) hx hb dX7_isWord_9 (by decide) (fun c5 => ?_) (fun c5 => ?_)
    · have h := zip c5 h
      refine lv_iconst (v := 0) hx hb dX7_isWord_26 (by decide) ?_
      exact z_zret hx hb hr hlocks hW hS (by decide) (Option.some.inj h) rfl dX7_isWord_27
    · have h := zin c5 h
      refine lv_iload_n hx hb dX7_isWord_12 rfl (lv_at hl 2 rfl) ?_
      refine lv_aload_n hx hb dX7_isWord_13 rfl (lv_at hl 0 rfl) ?_
      obtain ⟨b6, e7, h⟩ := zb_some h
      refine z_get (own := RX7) (C := RX7) (T := TX7) (N := 20) (ci := 7) hx hb hts hinX7 hown hK hL hW 1 (zK_of g3) rfl (by decide) (by decide) rfl (hts (.fieldLink RX7 7 "ArcLightModel" "words" "[I") (by decide +kernel)) (v := .ref (ad b6)) (zhvR e7 rfl) dX7_isWord_14 ?_
      refine lv_iload_n hx hb dX7_isWord_17 rfl (lv_at hl 1 rfl) ?_
      obtain ⟨g8, h⟩ := zg_some h
      refine z_iald hx hb hK hL hW g8 dX7_isWord_18 ?_
      refine lv_icmp_gt (tgt := 26) hx hb dX7_isWord_19 (by decide) (fun c9 => ?_) (fun c9 => ?_)
      · have h := zip c9 h
        refine lv_iconst (v := 0) hx hb dX7_isWord_26 (by decide) ?_
        exact z_zret hx hb hr hlocks hW hS (by decide) (Option.some.inj h) rfl dX7_isWord_27
      · have h := zin c9 h
        refine lv_iconst (v := 1) hx hb dX7_isWord_22 (by decide) ?_
        refine lv_goto (tgt := 27) hx hb dX7_isWord_23 (by decide) ?_
        exact z_zret hx hb hr hlocks hW hS (by decide) (Option.some.inj h) rfl dX7_isWord_27
def f_X7_isWord (N : Nat) (K len : Nat → Nat) (a0 : Nat) (a1 : Int32) (a2 : Int32) (M : ZM) : Option (Int32) := f_X7_isWord_0 N K len a0 a1 a2 M
set_option maxRecDepth 100000 in
set_option maxHeartbeats 4000000 in
theorem m_X7_isWord (l : Launch) {D : va_G} {cy : Nat → ClassId} {ad : Nat → Nat} {L : List Nat} {K len : Nat → Nat} (hL : zSh ad L K) (N : Nat) {a0 : Nat} {a1 : Int32} {a2 : Int32} {M : ZM} {r : Int32} (h : f_X7_isWord N K len a0 a1 a2 M = some r) (sz : Nat) : Met l yX7_isWord wsX7_isWord ({ frames := 1, cells := 0, slots := 0, locals := 21 } : Room) (zPre D cy ad L K len sz [.ref (ad a0), .int a1, .int a2] M) (zQi D cy ad L K len r M sz) 0 0 (zA ad L sz) :=
  z_entry (Qf := fun sz => zQi D cy ad L K len r M sz) (av := [.ref (ad a0), .int a1, .int a2]) (by decide) rfl rfl hL (Nat.le_of_ble_eq_true rfl) (fun p e s m args below meth c C0 H locs ls hW hS hl => t_X7_isWord_0 C0 N h hW hS (lv_sub hl [0, 1, 2] rfl))
def f_X7_isPlace_0 (N : Nat) (K len : Nat → Nat) (x0 : Nat) (x1 : Int32) (x2 : Int32) (M : ZM) : Option (Int32) :=
(f_X7_isSentence N K len x0 x1 M).bind fun q1 => (
zg (K x0 == 8) (
(if q1 = 0 then
some (0 : Int32)
else
(if x2 < 0 then
some (0 : Int32)
else
(zR M x0 1).bind fun b6 => (
zg (zok K len b6 11 x1) (
(if (zI M b6 x1.toNatClampNeg) < x2 then
some (0 : Int32)
else
some (1 : Int32))))))))
set_option maxRecDepth 100000 in
set_option maxHeartbeats 4000000 in
theorem t_X7_isPlace_0 {p : Program} {l : Launch} {e : Env} {s : State} {m : MethodId} {args : Array Value} {below : List Frame} {meth : Method} {c : Code} {D : va_G} {cy : Nat → ClassId} {ad : Nat → Nat} {L : List Nat} {K len : Nat → Nat} (C0 : zCx p s m c meth args cX7_isPlace 3 wsX7_isPlace RX7 (some .boolean) D cy ad L K) (N : Nat) {x0 : Nat} {x1 : Int32} {x2 : Int32} {M : ZM} {r : Int32} (h : f_X7_isPlace_0 N K len x0 x1 x2 M = some r) {H : Heap} {locs : List Loc} {ls : Array Slot} (hW : zWd D cy ad L K len M H) (hS : va_S (zA ad L s.heap.size) s.heap H locs) (hl : lv_has ls 3 [(0, .ref (ad x0)), (1, .int x1), (2, .int x2)]) : W p l e (headSpec wsX7_isPlace ({ frames := 1, cells := 0, slots := 0, locals := 21 } : Room)).room s m args below meth c H locs 0 0 (MQ below (zQi D cy ad L K len r M s.heap.size) args s 0 0 (zA ad L s.heap.size)) (F0 m 0 ls []) := by
  obtain ⟨hx, hb, hr, hml, hown, hts, hlocks, hK, hL, hE⟩ := id C0
  have hinX7 : ∀ w ∈ wsX70, w ∈ wsX7_isPlace := by decide +kernel
  unfold f_X7_isPlace_0 at h
  refine lv_aload_n hx hb dX7_isPlace_0 rfl (lv_at hl 0 rfl) ?_
  refine lv_iload_n hx hb dX7_isPlace_1 rfl (lv_at hl 1 rfl) ?_
  obtain ⟨q1, e2, h⟩ := zb_some h
  obtain ⟨g3, h⟩ := zg_some h
  refine z_calli hS (va_runV (As := [.int x1]) (rest := []) ⟨hx, hb, hml, hown, hts⟩ (m_X7_isSentence l hL N e2 H.size) (cwV 1 hts gX7_isPlace_X7_isSentence rfl rfl rfl (by decide +kernel) ⟨Nat.le_of_ble_eq_true rfl, Nat.le_of_ble_eq_true rfl⟩) (z_preV (q := (RX7, TX7, 20)) hK hL hE hW hS (zK_of g3) (by decide) rfl [.int x1]) rfl rfl hl.1 rfl (lv_room (Nat.le_of_ble_eq_true rfl)) dX7_isPlace_2 ⟨Nat.le_of_ble_eq_true rfl, Nat.le_of_ble_eq_true rfl⟩) (fun H locs hW hS => ?_)
  refine lv_if_eq (tgt := 26) hx hb dX7_isPlace_5 (by decide) (fun c4 => ?_) (fun c4 => ?_)
  · have h := zip c4 h
    refine lv_iconst (v := 0) hx hb dX7_isPlace_26 (by decide) ?_
    exact z_zret hx hb hr hlocks hW hS (by decide) (Option.some.inj h) rfl dX7_isPlace_27
  · have h := zin c4 h
    refine lv_iload_n hx hb dX7_isPlace_8 rfl (lv_at hl 2 rfl) ?_
    refine lv_if_lt (tgt := 26) hx hb dX7_isPlace_9 (by decide) (fun c5 => ?_) (fun c5 => ?_)
    · have h := zip c5 h
      refine lv_iconst (v := 0) hx hb dX7_isPlace_26 (by decide) ?_
      exact z_zret hx hb hr hlocks hW hS (by decide) (Option.some.inj h) rfl dX7_isPlace_27
    · have h := zin c5 h
      refine lv_iload_n hx hb dX7_isPlace_12 rfl (lv_at hl 2 rfl) ?_
      refine lv_aload_n hx hb dX7_isPlace_13 rfl (lv_at hl 0 rfl) ?_
      obtain ⟨b6, e7, h⟩ := zb_some h
      refine z_get (own := RX7) (C := RX7) (T := TX7) (N := 20) (ci := 7) hx hb hts hinX7 hown hK hL hW 1 (zK_of g3) rfl (by decide) (by decide) rfl (hts (.fieldLink RX7 7 "ArcLightModel" "words" "[I") (by decide +kernel)) (v := .ref (ad b6)) (zhvR e7 rfl) dX7_isPlace_14 ?_
      refine lv_iload_n hx hb dX7_isPlace_17 rfl (lv_at hl 1 rfl) ?_
      obtain ⟨g8, h⟩ := zg_some h
      refine z_iald hx hb hK hL hW g8 dX7_isPlace_18 ?_
      refine lv_icmp_gt (tgt := 26) hx hb dX7_isPlace_19 (by decide) (fun c9 => ?_) (fun c9 => ?_)
      · have h := zip c9 h
        refine lv_iconst (v := 0) hx hb dX7_isPlace_26 (by decide) ?_
        exact z_zret hx hb hr hlocks hW hS (by decide) (Option.some.inj h) rfl dX7_isPlace_27
      · have h := zin c9 h
        refine lv_iconst (v := 1) hx hb dX7_isPlace_22 (by decide) ?_
        refine lv_goto (tgt := 27) hx hb dX7_isPlace_23 (by decide) ?_
        exact z_zret hx hb hr hlocks hW hS (by decide) (Option.some.inj h) rfl dX7_isPlace_27
def f_X7_isPlace (N : Nat) (K len : Nat → Nat) (a0 : Nat) (a1 : Int32) (a2 : Int32) (M : ZM) : Option (Int32) := f_X7_isPlace_0 N K len a0 a1 a2 M
set_option maxRecDepth 100000 in
set_option maxHeartbeats 4000000 in
theorem m_X7_isPlace (l : Launch) {D : va_G} {cy : Nat → ClassId} {ad : Nat → Nat} {L : List Nat} {K len : Nat → Nat} (hL : zSh ad L K) (N : Nat) {a0 : Nat} {a1 : Int32} {a2 : Int32} {M : ZM} {r : Int32} (h : f_X7_isPlace N K len a0 a1 a2 M = some r) (sz : Nat) : Met l yX7_isPlace wsX7_isPlace ({ frames := 1, cells := 0, slots := 0, locals := 21 } : Room) (zPre D cy ad L K len sz [.ref (ad a0), .int a1, .int a2] M) (zQi D cy ad L K len r M sz) 0 0 (zA ad L sz) :=
  z_entry (Qf := fun sz => zQi D cy ad L K len r M sz) (av := [.ref (ad a0), .int a1, .int a2]) (by decide) rfl rfl hL (Nat.le_of_ble_eq_true rfl) (fun p e s m args below meth c C0 H locs ls hW hS hl => t_X7_isPlace_0 C0 N h hW hS (lv_sub hl [0, 1, 2] rfl))
def f_X7_addSentence_14 (N : Nat) (K len : Nat → Nat) (x0 : Nat) (s0 : Int32) (s1 : Nat) (M : ZM) : Option (Int32 × ZM) :=
zbp (f_X7_asks N K len s1 s0 M) fun q1 M3 => (
zg (K s1 == 8) (
(if q1 = 0 then
some ((0 : Int32), M3)
else
zg (K x0 == 8) (
zl (zsI M3 x0 0 ((zI M3 x0 0) + (1 : Int32))) fun M7 => (
some (((zI M7 x0 0) - (1 : Int32)), M7))))))
set_option maxRecDepth 100000 in
set_option maxHeartbeats 4000000 in
theorem t_X7_addSentence_14 {p : Program} {l : Launch} {e : Env} {s : State} {m : MethodId} {args : Array Value} {below : List Frame} {meth : Method} {c : Code} {D : va_G} {cy : Nat → ClassId} {ad : Nat → Nat} {L : List Nat} {K len : Nat → Nat} (C0 : zCx p s m c meth args cX7_addSentence 1 wsX7_addSentence RX7 (some .int) D cy ad L K) (N : Nat) {x0 : Nat} {s0 : Int32} {s1 : Nat} {M : ZM} {r : Int32} {Mr : ZM} (h : f_X7_addSentence_14 N K len x0 s0 s1 M = some (r, Mr)) {H : Heap} {locs : List Loc} {ls : Array Slot} (hW : zWd D cy ad L K len M H) (hS : va_S (zA ad L s.heap.size) s.heap H locs) (hl : lv_has ls 1 [(0, .ref (ad x0))]) : W p l e (headSpec wsX7_addSentence ({ frames := 1, cells := 0, slots := 0, locals := 21 } : Room)).room s m args below meth c H locs 0 0 (MQ below (zQi D cy ad L K len r Mr s.heap.size) args s 0 0 (zA ad L s.heap.size)) (F0 m 14 ls [.int s0, .ref (ad s1)]) := by
  obtain ⟨hx, hb, hr, hml, hown, hts, hlocks, hK, hL, hE⟩ := id C0
  have hinX7 : ∀ w ∈ wsX70, w ∈ wsX7_addSentence := by decide +kernel
  unfold f_X7_addSentence_14 at h
  obtain ⟨q1, M3, e2, h⟩ := zbp_some h
  obtain ⟨g4, h⟩ := zg_some h
  refine z_calli hS (va_runV (As := [.int s0]) (rest := []) ⟨hx, hb, hml, hown, hts⟩ (m_X7_asks l hL N e2 H.size) (cwV 1 hts gX7_addSentence_X7_asks rfl rfl rfl (by decide +kernel) ⟨Nat.le_of_ble_eq_true rfl, Nat.le_of_ble_eq_true rfl⟩) (z_preV (q := (RX7, TX7, 20)) hK hL hE hW hS (zK_of g4) (by decide) rfl [.int s0]) rfl rfl hl.1 rfl (lv_room (Nat.le_of_ble_eq_true rfl)) dX7_addSentence_14 ⟨Nat.le_of_ble_eq_true rfl, Nat.le_of_ble_eq_true rfl⟩) (fun H locs hW hS => ?_)
  refine lv_if_ne (tgt := 22) hx hb dX7_addSentence_17 (by decide) (fun c5 => ?_) (fun c5 => ?_)
  · have h := zin c5 h
    refine lv_aload_n hx hb dX7_addSentence_22 rfl (lv_at hl 0 rfl) ?_
    refine lv_dup hx hb dX7_addSentence_23 rfl ?_
    obtain ⟨g6, h⟩ := zg_some h
    refine z_get (own := RX7) (C := RX7) (T := TX7) (N := 20) (ci := 7) hx hb hts hinX7 hown hK hL hW 0 (zK_of g6) rfl (by decide) (by decide) rfl (hts (.fieldLink RX7 58 "ArcLightModel" "sentences" "I") (by decide +kernel)) (v := .int (zI M3 x0 0)) rfl dX7_addSentence_24 ?_
    refine lv_iconst (v := 1) hx hb dX7_addSentence_27 (by decide) ?_
    refine lv_iadd hx hb dX7_addSentence_28 ?_
    refine z_put (own := RX7) (C := RX7) (T := TX7) (N := 20) (ci := 7) (v := .int ((zI M3 x0 0) + (1 : Int32))) (M' := zsI M3 x0 0 ((zI M3 x0 0) + (1 : Int32))) hx hb hts hinX7 tyX7 tyX7_ok nmX7 hown hK hL hW hS 0 (zK_of g6) rfl (by decide) (by decide) rfl (hts (.fieldLink RX7 58 "ArcLightModel" "sentences" "I") (by decide +kernel)) rfl (ty := .int) (by decide +kernel) rfl rfl (Nat.le_of_ble_eq_true rfl) dX7_addSentence_29 (zM_I (zK_of g6) (by decide) rfl) (fun H locs hW hS => ?_)
    obtain ⟨M7, eM8, h⟩ := zl_some h
    rw [← eM8] at hW
    refine lv_aload_n hx hb dX7_addSentence_32 rfl (lv_at hl 0 rfl) ?_
    refine z_get (own := RX7) (C := RX7) (T := TX7) (N := 20) (ci := 7) hx hb hts hinX7 hown hK hL hW 0 (zK_of g6) rfl (by decide) (by decide) rfl (hts (.fieldLink RX7 58 "ArcLightModel" "sentences" "I") (by decide +kernel)) (v := .int (zI M7 x0 0)) rfl dX7_addSentence_33 ?_
    refine lv_iconst (v := 1) hx hb dX7_addSentence_36 (by decide) ?_
    refine lv_isub hx hb dX7_addSentence_37 ?_
    exact z_iret hx hb hr hlocks hW hS (congrArg Prod.fst (Option.some.inj h)) (congrArg Prod.snd (Option.some.inj h)) dX7_addSentence_38
  · have h := zip c5 h
    refine lv_iconst (v := 0) hx hb dX7_addSentence_20 (by decide) ?_
    exact z_iret hx hb hr hlocks hW hS (congrArg Prod.fst (Option.some.inj h)) (congrArg Prod.snd (Option.some.inj h)) dX7_addSentence_21
def f_X7_addSentence_0 (N : Nat) (K len : Nat → Nat) (x0 : Nat) (M : ZM) : Option (Int32 × ZM) :=
zg (K x0 == 8) (
(if (5 : Int32) ≤ (zI M x0 0) then
f_X7_addSentence_14 N K len  x0 (0 : Int32) x0 M
else
f_X7_addSentence_14 N K len  x0 (1 : Int32) x0 M))
set_option maxRecDepth 100000 in
set_option maxHeartbeats 4000000 in
theorem t_X7_addSentence_0 {p : Program} {l : Launch} {e : Env} {s : State} {m : MethodId} {args : Array Value} {below : List Frame} {meth : Method} {c : Code} {D : va_G} {cy : Nat → ClassId} {ad : Nat → Nat} {L : List Nat} {K len : Nat → Nat} (C0 : zCx p s m c meth args cX7_addSentence 1 wsX7_addSentence RX7 (some .int) D cy ad L K) (N : Nat) {x0 : Nat} {M : ZM} {r : Int32} {Mr : ZM} (h : f_X7_addSentence_0 N K len x0 M = some (r, Mr)) {H : Heap} {locs : List Loc} {ls : Array Slot} (hW : zWd D cy ad L K len M H) (hS : va_S (zA ad L s.heap.size) s.heap H locs) (hl : lv_has ls 1 [(0, .ref (ad x0))]) : W p l e (headSpec wsX7_addSentence ({ frames := 1, cells := 0, slots := 0, locals := 21 } : Room)).room s m args below meth c H locs 0 0 (MQ below (zQi D cy ad L K len r Mr s.heap.size) args s 0 0 (zA ad L s.heap.size)) (F0 m 0 ls []) := by
  obtain ⟨hx, hb, hr, hml, hown, hts, hlocks, hK, hL, hE⟩ := id C0
  have hinX7 : ∀ w ∈ wsX70, w ∈ wsX7_addSentence := by decide +kernel
  unfold f_X7_addSentence_0 at h
  refine lv_aload_n hx hb dX7_addSentence_0 rfl (lv_at hl 0 rfl) ?_
  refine lv_aload_n hx hb dX7_addSentence_1 rfl (lv_at hl 0 rfl) ?_
  obtain ⟨g1, h⟩ := zg_some h
  refine z_get (own := RX7) (C := RX7) (T := TX7) (N := 20) (ci := 7) hx hb hts hinX7 hown hK hL hW 0 (zK_of g1) rfl (by decide) (by decide) rfl (hts (.fieldLink RX7 58 "ArcLightModel" "sentences" "I") (by decide +kernel)) (v := .int (zI M x0 0)) rfl dX7_addSentence_2 ?_
  refine lv_iconst (v := 5) hx hb dX7_addSentence_5 (by decide) ?_
  refine lv_icmp_ge (tgt := 13) hx hb dX7_addSentence_6 (by decide) (fun c2 => ?_) (fun c2 => ?_)
  · have h := zip c2 h
    refine lv_iconst (v := 0) hx hb dX7_addSentence_13 (by decide) ?_
    exact t_X7_addSentence_14 C0 N  h hW hS (lv_sub hl [0] rfl)
  · have h := zin c2 h
    refine lv_iconst (v := 1) hx hb dX7_addSentence_9 (by decide) ?_
    refine lv_goto (tgt := 14) hx hb dX7_addSentence_10 (by decide) ?_
    exact t_X7_addSentence_14 C0 N  h hW hS (lv_sub hl [0] rfl)
def f_X7_addSentence (N : Nat) (K len : Nat → Nat) (a0 : Nat) (M : ZM) : Option (Int32 × ZM) := f_X7_addSentence_0 N K len a0 M
set_option maxRecDepth 100000 in
set_option maxHeartbeats 4000000 in
theorem m_X7_addSentence (l : Launch) {D : va_G} {cy : Nat → ClassId} {ad : Nat → Nat} {L : List Nat} {K len : Nat → Nat} (hL : zSh ad L K) (N : Nat) {a0 : Nat} {M : ZM} {r : Int32} {Mr : ZM} (h : f_X7_addSentence N K len a0 M = some (r, Mr)) (sz : Nat) : Met l yX7_addSentence wsX7_addSentence ({ frames := 1, cells := 0, slots := 0, locals := 21 } : Room) (zPre D cy ad L K len sz [.ref (ad a0)] M) (zQi D cy ad L K len r Mr sz) 0 0 (zA ad L sz) :=
  z_entry (Qf := fun sz => zQi D cy ad L K len r Mr sz) (av := [.ref (ad a0)]) (by decide) rfl rfl hL (Nat.le_of_ble_eq_true rfl) (fun p e s m args below meth c C0 H locs ls hW hS hl => t_X7_addSentence_0 C0 N h hW hS (lv_sub hl [0] rfl))
def f_X7_addWord_23 (N : Nat) (K len : Nat → Nat) (x0 : Nat) (M : ZM) : Option (Int32 × ZM) :=
zbp (f_X7_fails N K len x0 (2 : Int32) M) fun q1 M3 => (
zg (K x0 == 8) (
some (q1, M3)))
set_option maxRecDepth 100000 in
set_option maxHeartbeats 4000000 in
theorem t_X7_addWord_23 {p : Program} {l : Launch} {e : Env} {s : State} {m : MethodId} {args : Array Value} {below : List Frame} {meth : Method} {c : Code} {D : va_G} {cy : Nat → ClassId} {ad : Nat → Nat} {L : List Nat} {K len : Nat → Nat} (C0 : zCx p s m c meth args cX7_addWord 3 wsX7_addWord RX7 (some .int) D cy ad L K) (N : Nat) {x0 : Nat} {M : ZM} {r : Int32} {Mr : ZM} (h : f_X7_addWord_23 N K len x0 M = some (r, Mr)) {H : Heap} {locs : List Loc} {ls : Array Slot} (hW : zWd D cy ad L K len M H) (hS : va_S (zA ad L s.heap.size) s.heap H locs) (hl : lv_has ls 3 [(0, .ref (ad x0))]) : W p l e (headSpec wsX7_addWord ({ frames := 1, cells := 0, slots := 0, locals := 21 } : Room)).room s m args below meth c H locs 0 0 (MQ below (zQi D cy ad L K len r Mr s.heap.size) args s 0 0 (zA ad L s.heap.size)) (F0 m 23 ls []) := by
  obtain ⟨hx, hb, hr, hml, hown, hts, hlocks, hK, hL, hE⟩ := id C0
  unfold f_X7_addWord_23 at h
  refine lv_aload_n hx hb dX7_addWord_23 rfl (lv_at hl 0 rfl) ?_
  refine lv_iconst (v := 2) hx hb dX7_addWord_24 (by decide) ?_
  obtain ⟨q1, M3, e2, h⟩ := zbp_some h
  obtain ⟨g4, h⟩ := zg_some h
  refine z_calli hS (va_runV (As := [.int (2 : Int32)]) (rest := []) ⟨hx, hb, hml, hown, hts⟩ (m_X7_fails l hL N e2 H.size) (cwV 1 hts gX7_addWord_X7_fails rfl rfl rfl (by decide +kernel) ⟨Nat.le_of_ble_eq_true rfl, Nat.le_of_ble_eq_true rfl⟩) (z_preV (q := (RX7, TX7, 20)) hK hL hE hW hS (zK_of g4) (by decide) rfl [.int (2 : Int32)]) rfl rfl hl.1 rfl (lv_room (Nat.le_of_ble_eq_true rfl)) dX7_addWord_25 ⟨Nat.le_of_ble_eq_true rfl, Nat.le_of_ble_eq_true rfl⟩) (fun H locs hW hS => ?_)
  exact z_iret hx hb hr hlocks hW hS (congrArg Prod.fst (Option.some.inj h)) (congrArg Prod.snd (Option.some.inj h)) dX7_addWord_28
def f_X7_addWord_0 (N : Nat) (K len : Nat → Nat) (x0 : Nat) (x1 : Int32) (x2 : Int32) (M : ZM) : Option (Int32 × ZM) :=
(f_X7_isSentence N K len x0 x1 M).bind fun q1 => (
zg (K x0 == 8) (
zbp (f_X7_asks N K len x0 q1 M) fun q4 M6 => (
(if q4 = 0 then
some ((0 : Int32), M6)
else
(if x2 < 0 then
f_X7_addWord_23 N K len  x0 M6
else
(if x2 ≤ (3 : Int32) then
(zR M6 x0 1).bind fun b10 => (
zg (zok K len b10 11 x1) (
(if (zI M6 b10 x1.toNatClampNeg) = (6 : Int32) then
zbp (f_X7_fails N K len x0 (3 : Int32) M6) fun q38 M40 => (
some (q38, M40))
else
zl (zsI M6 b10 x1.toNatClampNeg ((zI M6 b10 x1.toNatClampNeg) + (1 : Int32))) fun M14 => (
(zR M14 x0 2).bind fun b16 => (
(zR M14 x0 1).bind fun b18 => (
zg (zok K len b18 11 x1) (
zg (zok K len b16 11 (((7 : Int32) * x1) + (zI M14 b18 x1.toNatClampNeg))) (
zl (zsI M14 b16 (((7 : Int32) * x1) + (zI M14 b18 x1.toNatClampNeg)).toNatClampNeg x2) fun M22 => (
(zR M22 x0 4).bind fun b24 => (
(zR M22 x0 1).bind fun b26 => (
zg (zok K len b26 11 x1) (
zg (zok K len b24 11 (((7 : Int32) * x1) + (zI M22 b26 x1.toNatClampNeg))) (
zl (zsI M22 b24 (((7 : Int32) * x1) + (zI M22 b26 x1.toNatClampNeg)).toNatClampNeg (-1 : Int32)) fun M30 => (
(f_X7_changed N K len x0 M30).bind fun M34 => (
(zR M34 x0 1).bind fun b35 => (
zg (zok K len b35 11 x1) (
some ((zI M34 b35 x1.toNatClampNeg), M34))))))))))))))))))
else
f_X7_addWord_23 N K len  x0 M6))))))
set_option maxRecDepth 100000 in
set_option maxHeartbeats 4000000 in
theorem t_X7_addWord_0 {p : Program} {l : Launch} {e : Env} {s : State} {m : MethodId} {args : Array Value} {below : List Frame} {meth : Method} {c : Code} {D : va_G} {cy : Nat → ClassId} {ad : Nat → Nat} {L : List Nat} {K len : Nat → Nat} (C0 : zCx p s m c meth args cX7_addWord 3 wsX7_addWord RX7 (some .int) D cy ad L K) (N : Nat) {x0 : Nat} {x1 : Int32} {x2 : Int32} {M : ZM} {r : Int32} {Mr : ZM} (h : f_X7_addWord_0 N K len x0 x1 x2 M = some (r, Mr)) {H : Heap} {locs : List Loc} {ls : Array Slot} (hW : zWd D cy ad L K len M H) (hS : va_S (zA ad L s.heap.size) s.heap H locs) (hl : lv_has ls 3 [(0, .ref (ad x0)), (1, .int x1), (2, .int x2)]) : W p l e (headSpec wsX7_addWord ({ frames := 1, cells := 0, slots := 0, locals := 21 } : Room)).room s m args below meth c H locs 0 0 (MQ below (zQi D cy ad L K len r Mr s.heap.size) args s 0 0 (zA ad L s.heap.size)) (F0 m 0 ls []) := by
  obtain ⟨hx, hb, hr, hml, hown, hts, hlocks, hK, hL, hE⟩ := id C0
  have hinX7 : ∀ w ∈ wsX70, w ∈ wsX7_addWord := by decide +kernel
  unfold f_X7_addWord_0 at h
  refine lv_aload_n hx hb dX7_addWord_0 rfl (lv_at hl 0 rfl) ?_
  refine lv_aload_n hx hb dX7_addWord_1 rfl (lv_at hl 0 rfl) ?_
  refine lv_iload_n hx hb dX7_addWord_2 rfl (lv_at hl 1 rfl) ?_
  obtain ⟨q1, e2, h⟩ := zb_some h
  obtain ⟨g3, h⟩ := zg_some h
  refine z_calli hS (va_runV (As := [.int x1]) (rest := [.ref (ad x0)]) ⟨hx, hb, hml, hown, hts⟩ (m_X7_isSentence l hL N e2 H.size) (cwV 1 hts gX7_addWord_X7_isSentence rfl rfl rfl (by decide +kernel) ⟨Nat.le_of_ble_eq_true rfl, Nat.le_of_ble_eq_true rfl⟩) (z_preV (q := (RX7, TX7, 20)) hK hL hE hW hS (zK_of g3) (by decide) rfl [.int x1]) rfl rfl hl.1 rfl (lv_room (Nat.le_of_ble_eq_true rfl)) dX7_addWord_3 ⟨Nat.le_of_ble_eq_true rfl, Nat.le_of_ble_eq_true rfl⟩) (fun H locs hW hS => ?_)
  obtain ⟨q4, M6, e5, h⟩ := zbp_some h
  refine z_calli hS (va_runV (As := [.int q1]) (rest := []) ⟨hx, hb, hml, hown, hts⟩ (m_X7_asks l hL N e5 H.size) (cwV 1 hts gX7_addWord_X7_asks rfl rfl rfl (by decide +kernel) ⟨Nat.le_of_ble_eq_true rfl, Nat.le_of_ble_eq_true rfl⟩) (z_preV (q := (RX7, TX7, 20)) hK hL hE hW hS (zK_of g3) (by decide) rfl [.int q1]) rfl rfl hl.1 rfl (lv_room (Nat.le_of_ble_eq_true rfl)) dX7_addWord_6 ⟨Nat.le_of_ble_eq_true rfl, Nat.le_of_ble_eq_true rfl⟩) (fun H locs hW hS => ?_)
  refine lv_if_ne (tgt := 14) hx hb dX7_addWord_9 (by decide) (fun c7 => ?_) (fun c7 => ?_)
  · have h := zin c7 h
    refine lv_iload_n hx hb dX7_addWord_14 rfl (lv_at hl 2 rfl) ?_
    refine lv_if_lt (tgt := 23) hx hb dX7_addWord_15 (by decide) (fun c8 => ?_) (fun c8 => ?_)
    · have h := zip c8 h
      exact t_X7_addWord_23 C0 N  h hW hS (lv_sub hl [0] rfl)
    · have h := zin c8 h
      refine lv_iload_n hx hb dX7_addWord_18 rfl (lv_at hl 2 rfl) ?_
      refine lv_iconst (v := 3) hx hb dX7_addWord_19 (by decide) ?_
      refine lv_icmp_le (tgt := 29) hx hb dX7_addWord_20 (by decide) (fun c9 => ?_) (fun c9 => ?_)
      · have h := zip c9 h
        refine lv_aload_n hx hb dX7_addWord_29 rfl (lv_at hl 0 rfl) ?_
        obtain ⟨b10, e11, h⟩ := zb_some h
        refine z_get (own := RX7) (C := RX7) (T := TX7) (N := 20) (ci := 7) hx hb hts hinX7 hown hK hL hW 1 (zK_of g3) rfl (by decide) (by decide) rfl (hts (.fieldLink RX7 7 "ArcLightModel" "words" "[I") (by decide +kernel)) (v := .ref (ad b10)) (zhvR e11 rfl) dX7_addWord_30 ?_
        refine lv_iload_n hx hb dX7_addWord_33 rfl (lv_at hl 1 rfl) ?_
        obtain ⟨g12, h⟩ := zg_some h
        refine z_iald hx hb hK hL hW g12 dX7_addWord_34 ?_
        refine lv_bipush (v := 6) hx hb dX7_addWord_35 (by decide) ?_
        refine lv_icmp_ne (tgt := 46) hx hb dX7_addWord_37 (by decide) (fun c13 => ?_) (fun c13 => ?_)
        · have h := zin c13 h
          refine lv_aload_n hx hb dX7_addWord_46 rfl (lv_at hl 0 rfl) ?_
          refine z_get (own := RX7) (C := RX7) (T := TX7) (N := 20) (ci := 7) hx hb hts hinX7 hown hK hL hW 1 (zK_of g3) rfl (by decide) (by decide) rfl (hts (.fieldLink RX7 7 "ArcLightModel" "words" "[I") (by decide +kernel)) (v := .ref (ad b10)) (zhvR e11 rfl) dX7_addWord_47 ?_
          refine lv_iload_n hx hb dX7_addWord_50 rfl (lv_at hl 1 rfl) ?_
          refine lv_dup2_11 hx hb dX7_addWord_51 rfl rfl ?_
          refine z_iald hx hb hK hL hW g12 dX7_addWord_52 ?_
          refine lv_iconst (v := 1) hx hb dX7_addWord_53 (by decide) ?_
          refine lv_iadd hx hb dX7_addWord_54 ?_
          refine z_iast hx hb hK hL hW hS g12 dX7_addWord_55 (fun H locs hW hS => ?_)
          obtain ⟨M14, eM15, h⟩ := zl_some h
          rw [← eM15] at hW
          refine lv_aload_n hx hb dX7_addWord_56 rfl (lv_at hl 0 rfl) ?_
          obtain ⟨b16, e17, h⟩ := zb_some h
          refine z_get (own := RX7) (C := RX7) (T := TX7) (N := 20) (ci := 7) hx hb hts hinX7 hown hK hL hW 2 (zK_of g3) rfl (by decide) (by decide) rfl (hts (.fieldLink RX7 13 "ArcLightModel" "kind" "[I") (by decide +kernel)) (v := .ref (ad b16)) (zhvR e17 rfl) dX7_addWord_57 ?_
          refine lv_bipush (v := 7) hx hb dX7_addWord_60 (by decide) ?_
          refine lv_iload_n hx hb dX7_addWord_62 rfl (lv_at hl 1 rfl) ?_
          refine lv_imul hx hb dX7_addWord_63 ?_
          refine lv_aload_n hx hb dX7_addWord_64 rfl (lv_at hl 0 rfl) ?_
          obtain ⟨b18, e19, h⟩ := zb_some h
          refine z_get (own := RX7) (C := RX7) (T := TX7) (N := 20) (ci := 7) hx hb hts hinX7 hown hK hL hW 1 (zK_of g3) rfl (by decide) (by decide) rfl (hts (.fieldLink RX7 7 "ArcLightModel" "words" "[I") (by decide +kernel)) (v := .ref (ad b18)) (zhvR e19 rfl) dX7_addWord_65 ?_
          refine lv_iload_n hx hb dX7_addWord_68 rfl (lv_at hl 1 rfl) ?_
          obtain ⟨g20, h⟩ := zg_some h
          refine z_iald hx hb hK hL hW g20 dX7_addWord_69 ?_
          refine lv_iadd hx hb dX7_addWord_70 ?_
          refine lv_iload_n hx hb dX7_addWord_71 rfl (lv_at hl 2 rfl) ?_
          obtain ⟨g21, h⟩ := zg_some h
          refine z_iast hx hb hK hL hW hS g21 dX7_addWord_72 (fun H locs hW hS => ?_)
          obtain ⟨M22, eM23, h⟩ := zl_some h
          rw [← eM23] at hW
          refine lv_aload_n hx hb dX7_addWord_73 rfl (lv_at hl 0 rfl) ?_
          obtain ⟨b24, e25, h⟩ := zb_some h
          refine z_get (own := RX7) (C := RX7) (T := TX7) (N := 20) (ci := 7) hx hb hts hinX7 hown hK hL hW 4 (zK_of g3) rfl (by decide) (by decide) rfl (hts (.fieldLink RX7 19 "ArcLightModel" "right" "[I") (by decide +kernel)) (v := .ref (ad b24)) (zhvR e25 rfl) dX7_addWord_74 ?_
          refine lv_bipush (v := 7) hx hb dX7_addWord_77 (by decide) ?_
          refine lv_iload_n hx hb dX7_addWord_79 rfl (lv_at hl 1 rfl) ?_
          refine lv_imul hx hb dX7_addWord_80 ?_
          refine lv_aload_n hx hb dX7_addWord_81 rfl (lv_at hl 0 rfl) ?_
          obtain ⟨b26, e27, h⟩ := zb_some h
          refine z_get (own := RX7) (C := RX7) (T := TX7) (N := 20) (ci := 7) hx hb hts hinX7 hown hK hL hW 1 (zK_of g3) rfl (by decide) (by decide) rfl (hts (.fieldLink RX7 7 "ArcLightModel" "words" "[I") (by decide +kernel)) (v := .ref (ad b26)) (zhvR e27 rfl) dX7_addWord_82 ?_
          refine lv_iload_n hx hb dX7_addWord_85 rfl (lv_at hl 1 rfl) ?_
          obtain ⟨g28, h⟩ := zg_some h
          refine z_iald hx hb hK hL hW g28 dX7_addWord_86 ?_
          refine lv_iadd hx hb dX7_addWord_87 ?_
          refine lv_iconst (v := -1) hx hb dX7_addWord_88 (by decide) ?_
          obtain ⟨g29, h⟩ := zg_some h
          refine z_iast hx hb hK hL hW hS g29 dX7_addWord_89 (fun H locs hW hS => ?_)
          obtain ⟨M30, eM31, h⟩ := zl_some h
          rw [← eM31] at hW
          refine lv_aload_n hx hb dX7_addWord_90 rfl (lv_at hl 0 rfl) ?_
          obtain ⟨M34, e33, h⟩ := zb_some h
          refine z_callv hS (va_runV (As := []) (rest := []) ⟨hx, hb, hml, hown, hts⟩ (m_X7_changed l hL N e33 H.size) (cwV 0 hts gX7_addWord_X7_changed rfl rfl rfl (by decide +kernel) ⟨Nat.le_of_ble_eq_true rfl, Nat.le_of_ble_eq_true rfl⟩) (z_preV (q := (RX7, TX7, 20)) hK hL hE hW hS (zK_of g3) (by decide) rfl []) rfl rfl hl.1 rfl (lv_room (Nat.le_of_ble_eq_true rfl)) dX7_addWord_91 ⟨Nat.le_of_ble_eq_true rfl, Nat.le_of_ble_eq_true rfl⟩) (fun H locs hW hS => ?_)
          refine lv_aload_n hx hb dX7_addWord_94 rfl (lv_at hl 0 rfl) ?_
          obtain ⟨b35, e36, h⟩ := zb_some h
          refine z_get (own := RX7) (C := RX7) (T := TX7) (N := 20) (ci := 7) hx hb hts hinX7 hown hK hL hW 1 (zK_of g3) rfl (by decide) (by decide) rfl (hts (.fieldLink RX7 7 "ArcLightModel" "words" "[I") (by decide +kernel)) (v := .ref (ad b35)) (zhvR e36 rfl) dX7_addWord_95 ?_
          refine lv_iload_n hx hb dX7_addWord_98 rfl (lv_at hl 1 rfl) ?_
          obtain ⟨g37, h⟩ := zg_some h
          refine z_iald hx hb hK hL hW g37 dX7_addWord_99 ?_
          exact z_iret hx hb hr hlocks hW hS (congrArg Prod.fst (Option.some.inj h)) (congrArg Prod.snd (Option.some.inj h)) dX7_addWord_100
        · have h := zip c13 h
          refine lv_aload_n hx hb dX7_addWord_40 rfl (lv_at hl 0 rfl) ?_
          refine lv_iconst (v := 3) hx hb dX7_addWord_41 (by decide) ?_
          obtain ⟨q38, M40, e39, h⟩ := zbp_some h
          refine z_calli hS (va_runV (As := [.int (3 : Int32)]) (rest := []) ⟨hx, hb, hml, hown, hts⟩ (m_X7_fails l hL N e39 H.size) (cwV 1 hts gX7_addWord_X7_fails rfl rfl rfl (by decide +kernel) ⟨Nat.le_of_ble_eq_true rfl, Nat.le_of_ble_eq_true rfl⟩) (z_preV (q := (RX7, TX7, 20)) hK hL hE hW hS (zK_of g3) (by decide) rfl [.int (3 : Int32)]) rfl rfl hl.1 rfl (lv_room (Nat.le_of_ble_eq_true rfl)) dX7_addWord_42 ⟨Nat.le_of_ble_eq_true rfl, Nat.le_of_ble_eq_true rfl⟩) (fun H locs hW hS => ?_)
          exact z_iret hx hb hr hlocks hW hS (congrArg Prod.fst (Option.some.inj h)) (congrArg Prod.snd (Option.some.inj h)) dX7_addWord_45
      · have h := zin c9 h
        exact t_X7_addWord_23 C0 N  h hW hS (lv_sub hl [0] rfl)
  · have h := zip c7 h
    refine lv_iconst (v := 0) hx hb dX7_addWord_12 (by decide) ?_
    exact z_iret hx hb hr hlocks hW hS (congrArg Prod.fst (Option.some.inj h)) (congrArg Prod.snd (Option.some.inj h)) dX7_addWord_13
def f_X7_addWord (N : Nat) (K len : Nat → Nat) (a0 : Nat) (a1 : Int32) (a2 : Int32) (M : ZM) : Option (Int32 × ZM) := f_X7_addWord_0 N K len a0 a1 a2 M
set_option maxRecDepth 100000 in
set_option maxHeartbeats 4000000 in
theorem m_X7_addWord (l : Launch) {D : va_G} {cy : Nat → ClassId} {ad : Nat → Nat} {L : List Nat} {K len : Nat → Nat} (hL : zSh ad L K) (N : Nat) {a0 : Nat} {a1 : Int32} {a2 : Int32} {M : ZM} {r : Int32} {Mr : ZM} (h : f_X7_addWord N K len a0 a1 a2 M = some (r, Mr)) (sz : Nat) : Met l yX7_addWord wsX7_addWord ({ frames := 1, cells := 0, slots := 0, locals := 21 } : Room) (zPre D cy ad L K len sz [.ref (ad a0), .int a1, .int a2] M) (zQi D cy ad L K len r Mr sz) 0 0 (zA ad L sz) :=
  z_entry (Qf := fun sz => zQi D cy ad L K len r Mr sz) (av := [.ref (ad a0), .int a1, .int a2]) (by decide) rfl rfl hL (Nat.le_of_ble_eq_true rfl) (fun p e s m args below meth c C0 H locs ls hW hS hl => t_X7_addWord_0 C0 N h hW hS (lv_sub hl [0, 1, 2] rfl))
def f_X7_sentences_0 (N : Nat) (K len : Nat → Nat) (x0 : Nat) (M : ZM) : Option (Int32 × ZM) :=
zg (K x0 == 8) (
zl (zsI M x0 19 (0 : Int32)) fun M2 => (
some ((zI M2 x0 0), M2)))
set_option maxRecDepth 100000 in
set_option maxHeartbeats 4000000 in
theorem t_X7_sentences_0 {p : Program} {l : Launch} {e : Env} {s : State} {m : MethodId} {args : Array Value} {below : List Frame} {meth : Method} {c : Code} {D : va_G} {cy : Nat → ClassId} {ad : Nat → Nat} {L : List Nat} {K len : Nat → Nat} (C0 : zCx p s m c meth args cX7_sentences 1 wsX7_sentences RX7 (some .int) D cy ad L K) (N : Nat) {x0 : Nat} {M : ZM} {r : Int32} {Mr : ZM} (h : f_X7_sentences_0 N K len x0 M = some (r, Mr)) {H : Heap} {locs : List Loc} {ls : Array Slot} (hW : zWd D cy ad L K len M H) (hS : va_S (zA ad L s.heap.size) s.heap H locs) (hl : lv_has ls 1 [(0, .ref (ad x0))]) : W p l e (headSpec wsX7_sentences ({ frames := 0, cells := 0, slots := 0, locals := 0 } : Room)).room s m args below meth c H locs 0 0 (MQ below (zQi D cy ad L K len r Mr s.heap.size) args s 0 0 (zA ad L s.heap.size)) (F0 m 0 ls []) := by
  obtain ⟨hx, hb, hr, hml, hown, hts, hlocks, hK, hL, hE⟩ := id C0
  have hinX7 : ∀ w ∈ wsX70, w ∈ wsX7_sentences := by decide +kernel
  unfold f_X7_sentences_0 at h
  refine lv_aload_n hx hb dX7_sentences_0 rfl (lv_at hl 0 rfl) ?_
  refine lv_iconst (v := 0) hx hb dX7_sentences_1 (by decide) ?_
  obtain ⟨g1, h⟩ := zg_some h
  refine z_put (own := RX7) (C := RX7) (T := TX7) (N := 20) (ci := 7) (v := .int (0 : Int32)) (M' := zsI M x0 19 (0 : Int32)) hx hb hts hinX7 tyX7 tyX7_ok nmX7 hown hK hL hW hS 19 (zK_of g1) rfl (by decide) (by decide) rfl (hts (.fieldLink RX7 55 "ArcLightModel" "thrown" "I") (by decide +kernel)) rfl (ty := .int) (by decide +kernel) rfl rfl (Nat.le_of_ble_eq_true rfl) dX7_sentences_2 (zM_I (zK_of g1) (by decide) rfl) (fun H locs hW hS => ?_)
  obtain ⟨M2, eM3, h⟩ := zl_some h
  rw [← eM3] at hW
  refine lv_aload_n hx hb dX7_sentences_5 rfl (lv_at hl 0 rfl) ?_
  refine z_get (own := RX7) (C := RX7) (T := TX7) (N := 20) (ci := 7) hx hb hts hinX7 hown hK hL hW 0 (zK_of g1) rfl (by decide) (by decide) rfl (hts (.fieldLink RX7 58 "ArcLightModel" "sentences" "I") (by decide +kernel)) (v := .int (zI M2 x0 0)) rfl dX7_sentences_6 ?_
  exact z_iret hx hb hr hlocks hW hS (congrArg Prod.fst (Option.some.inj h)) (congrArg Prod.snd (Option.some.inj h)) dX7_sentences_9
def f_X7_sentences (N : Nat) (K len : Nat → Nat) (a0 : Nat) (M : ZM) : Option (Int32 × ZM) := f_X7_sentences_0 N K len a0 M
set_option maxRecDepth 100000 in
set_option maxHeartbeats 4000000 in
theorem m_X7_sentences (l : Launch) {D : va_G} {cy : Nat → ClassId} {ad : Nat → Nat} {L : List Nat} {K len : Nat → Nat} (hL : zSh ad L K) (N : Nat) {a0 : Nat} {M : ZM} {r : Int32} {Mr : ZM} (h : f_X7_sentences N K len a0 M = some (r, Mr)) (sz : Nat) : Met l yX7_sentences wsX7_sentences ({ frames := 0, cells := 0, slots := 0, locals := 0 } : Room) (zPre D cy ad L K len sz [.ref (ad a0)] M) (zQi D cy ad L K len r Mr sz) 0 0 (zA ad L sz) :=
  z_entry (Qf := fun sz => zQi D cy ad L K len r Mr sz) (av := [.ref (ad a0)]) (by decide) rfl rfl hL (Nat.le_of_ble_eq_true rfl) (fun p e s m args below meth c C0 H locs ls hW hS hl => t_X7_sentences_0 C0 N h hW hS (lv_sub hl [0] rfl))
def f_X7_words_0 (N : Nat) (K len : Nat → Nat) (x0 : Nat) (x1 : Int32) (M : ZM) : Option (Int32 × ZM) :=
(f_X7_isSentence N K len x0 x1 M).bind fun q1 => (
zg (K x0 == 8) (
zbp (f_X7_asks N K len x0 q1 M) fun q4 M6 => (
(if q4 = 0 then
some ((0 : Int32), M6)
else
(zR M6 x0 1).bind fun b8 => (
zg (zok K len b8 11 x1) (
some ((zI M6 b8 x1.toNatClampNeg), M6)))))))
set_option maxRecDepth 100000 in
set_option maxHeartbeats 4000000 in
theorem t_X7_words_0 {p : Program} {l : Launch} {e : Env} {s : State} {m : MethodId} {args : Array Value} {below : List Frame} {meth : Method} {c : Code} {D : va_G} {cy : Nat → ClassId} {ad : Nat → Nat} {L : List Nat} {K len : Nat → Nat} (C0 : zCx p s m c meth args cX7_words 2 wsX7_words RX7 (some .int) D cy ad L K) (N : Nat) {x0 : Nat} {x1 : Int32} {M : ZM} {r : Int32} {Mr : ZM} (h : f_X7_words_0 N K len x0 x1 M = some (r, Mr)) {H : Heap} {locs : List Loc} {ls : Array Slot} (hW : zWd D cy ad L K len M H) (hS : va_S (zA ad L s.heap.size) s.heap H locs) (hl : lv_has ls 2 [(0, .ref (ad x0)), (1, .int x1)]) : W p l e (headSpec wsX7_words ({ frames := 1, cells := 0, slots := 0, locals := 21 } : Room)).room s m args below meth c H locs 0 0 (MQ below (zQi D cy ad L K len r Mr s.heap.size) args s 0 0 (zA ad L s.heap.size)) (F0 m 0 ls []) := by
  obtain ⟨hx, hb, hr, hml, hown, hts, hlocks, hK, hL, hE⟩ := id C0
  have hinX7 : ∀ w ∈ wsX70, w ∈ wsX7_words := by decide +kernel
  unfold f_X7_words_0 at h
  refine lv_aload_n hx hb dX7_words_0 rfl (lv_at hl 0 rfl) ?_
  refine lv_aload_n hx hb dX7_words_1 rfl (lv_at hl 0 rfl) ?_
  refine lv_iload_n hx hb dX7_words_2 rfl (lv_at hl 1 rfl) ?_
  obtain ⟨q1, e2, h⟩ := zb_some h
  obtain ⟨g3, h⟩ := zg_some h
  refine z_calli hS (va_runV (As := [.int x1]) (rest := [.ref (ad x0)]) ⟨hx, hb, hml, hown, hts⟩ (m_X7_isSentence l hL N e2 H.size) (cwV 1 hts gX7_words_X7_isSentence rfl rfl rfl (by decide +kernel) ⟨Nat.le_of_ble_eq_true rfl, Nat.le_of_ble_eq_true rfl⟩) (z_preV (q := (RX7, TX7, 20)) hK hL hE hW hS (zK_of g3) (by decide) rfl [.int x1]) rfl rfl hl.1 rfl (lv_room (Nat.le_of_ble_eq_true rfl)) dX7_words_3 ⟨Nat.le_of_ble_eq_true rfl, Nat.le_of_ble_eq_true rfl⟩) (fun H locs hW hS => ?_)
  obtain ⟨q4, M6, e5, h⟩ := zbp_some h
  refine z_calli hS (va_runV (As := [.int q1]) (rest := []) ⟨hx, hb, hml, hown, hts⟩ (m_X7_asks l hL N e5 H.size) (cwV 1 hts gX7_words_X7_asks rfl rfl rfl (by decide +kernel) ⟨Nat.le_of_ble_eq_true rfl, Nat.le_of_ble_eq_true rfl⟩) (z_preV (q := (RX7, TX7, 20)) hK hL hE hW hS (zK_of g3) (by decide) rfl [.int q1]) rfl rfl hl.1 rfl (lv_room (Nat.le_of_ble_eq_true rfl)) dX7_words_6 ⟨Nat.le_of_ble_eq_true rfl, Nat.le_of_ble_eq_true rfl⟩) (fun H locs hW hS => ?_)
  refine lv_if_eq (tgt := 21) hx hb dX7_words_9 (by decide) (fun c7 => ?_) (fun c7 => ?_)
  · have h := zip c7 h
    refine lv_iconst (v := 0) hx hb dX7_words_21 (by decide) ?_
    exact z_iret hx hb hr hlocks hW hS (congrArg Prod.fst (Option.some.inj h)) (congrArg Prod.snd (Option.some.inj h)) dX7_words_22
  · have h := zin c7 h
    refine lv_aload_n hx hb dX7_words_12 rfl (lv_at hl 0 rfl) ?_
    obtain ⟨b8, e9, h⟩ := zb_some h
    refine z_get (own := RX7) (C := RX7) (T := TX7) (N := 20) (ci := 7) hx hb hts hinX7 hown hK hL hW 1 (zK_of g3) rfl (by decide) (by decide) rfl (hts (.fieldLink RX7 7 "ArcLightModel" "words" "[I") (by decide +kernel)) (v := .ref (ad b8)) (zhvR e9 rfl) dX7_words_13 ?_
    refine lv_iload_n hx hb dX7_words_16 rfl (lv_at hl 1 rfl) ?_
    obtain ⟨g10, h⟩ := zg_some h
    refine z_iald hx hb hK hL hW g10 dX7_words_17 ?_
    refine lv_goto (tgt := 22) hx hb dX7_words_18 (by decide) ?_
    exact z_iret hx hb hr hlocks hW hS (congrArg Prod.fst (Option.some.inj h)) (congrArg Prod.snd (Option.some.inj h)) dX7_words_22
def f_X7_words (N : Nat) (K len : Nat → Nat) (a0 : Nat) (a1 : Int32) (M : ZM) : Option (Int32 × ZM) := f_X7_words_0 N K len a0 a1 M
set_option maxRecDepth 100000 in
set_option maxHeartbeats 4000000 in
theorem m_X7_words (l : Launch) {D : va_G} {cy : Nat → ClassId} {ad : Nat → Nat} {L : List Nat} {K len : Nat → Nat} (hL : zSh ad L K) (N : Nat) {a0 : Nat} {a1 : Int32} {M : ZM} {r : Int32} {Mr : ZM} (h : f_X7_words N K len a0 a1 M = some (r, Mr)) (sz : Nat) : Met l yX7_words wsX7_words ({ frames := 1, cells := 0, slots := 0, locals := 21 } : Room) (zPre D cy ad L K len sz [.ref (ad a0), .int a1] M) (zQi D cy ad L K len r Mr sz) 0 0 (zA ad L sz) :=
  z_entry (Qf := fun sz => zQi D cy ad L K len r Mr sz) (av := [.ref (ad a0), .int a1]) (by decide) rfl rfl hL (Nat.le_of_ble_eq_true rfl) (fun p e s m args below meth c C0 H locs ls hW hS hl => t_X7_words_0 C0 N h hW hS (lv_sub hl [0, 1] rfl))
def f_X7_kind_0 (N : Nat) (K len : Nat → Nat) (x0 : Nat) (x1 : Int32) (x2 : Int32) (M : ZM) : Option (Int32 × ZM) :=
(f_X7_isWord N K len x0 x1 x2 M).bind fun q1 => (
zg (K x0 == 8) (
zbp (f_X7_asks N K len x0 q1 M) fun q4 M6 => (
(if q4 = 0 then
some ((0 : Int32), M6)
else
(zR M6 x0 2).bind fun b8 => (
zg (zok K len b8 11 (((7 : Int32) * x1) + x2)) (
some ((zI M6 b8 (((7 : Int32) * x1) + x2).toNatClampNeg), M6)))))))
set_option maxRecDepth 100000 in
set_option maxHeartbeats 4000000 in
theorem t_X7_kind_0 {p : Program} {l : Launch} {e : Env} {s : State} {m : MethodId} {args : Array Value} {below : List Frame} {meth : Method} {c : Code} {D : va_G} {cy : Nat → ClassId} {ad : Nat → Nat} {L : List Nat} {K len : Nat → Nat} (C0 : zCx p s m c meth args cX7_kind 3 wsX7_kind RX7 (some .int) D cy ad L K) (N : Nat) {x0 : Nat} {x1 : Int32} {x2 : Int32} {M : ZM} {r : Int32} {Mr : ZM} (h : f_X7_kind_0 N K len x0 x1 x2 M = some (r, Mr)) {H : Heap} {locs : List Loc} {ls : Array Slot} (hW : zWd D cy ad L K len M H) (hS : va_S (zA ad L s.heap.size) s.heap H locs) (hl : lv_has ls 3 [(0, .ref (ad x0)), (1, .int x1), (2, .int x2)]) : W p l e (headSpec wsX7_kind ({ frames := 2, cells := 0, slots := 0, locals := 43 } : Room)).room s m args below meth c H locs 0 0 (MQ below (zQi D cy ad L K len r Mr s.heap.size) args s 0 0 (zA ad L s.heap.size)) (F0 m 0 ls []) := by
  obtain ⟨hx, hb, hr, hml, hown, hts, hlocks, hK, hL, hE⟩ := id C0
  have hinX7 : ∀ w ∈ wsX70, w ∈ wsX7_kind := by decide +kernel
  unfold f_X7_kind_0 at h
  refine lv_aload_n hx hb dX7_kind_0 rfl (lv_at hl 0 rfl) ?_
  refine lv_aload_n hx hb dX7_kind_1 rfl (lv_at hl 0 rfl) ?_
  refine lv_iload_n hx hb dX7_kind_2 rfl (lv_at hl 1 rfl) ?_
  refine lv_iload_n hx hb dX7_kind_3 rfl (lv_at hl 2 rfl) ?_
  obtain ⟨q1, e2, h⟩ := zb_some h
  obtain ⟨g3, h⟩ := zg_some h
  refine z_calli hS (va_runV (As := [.int x1, .int x2]) (rest := [.ref (ad x0)]) ⟨hx, hb, hml, hown, hts⟩ (m_X7_isWord l hL N e2 H.size) (cwV 2 hts gX7_kind_X7_isWord rfl rfl rfl (by decide +kernel) ⟨Nat.le_of_ble_eq_true rfl, Nat.le_of_ble_eq_true rfl⟩) (z_preV (q := (RX7, TX7, 20)) hK hL hE hW hS (zK_of g3) (by decide) rfl [.int x1, .int x2]) rfl rfl hl.1 rfl (lv_room (Nat.le_of_ble_eq_true rfl)) dX7_kind_4 ⟨Nat.le_of_ble_eq_true rfl, Nat.le_of_ble_eq_true rfl⟩) (fun H locs hW hS => ?_)
  obtain ⟨q4, M6, e5, h⟩ := zbp_some h
  refine z_calli hS (va_runV (As := [.int q1]) (rest := []) ⟨hx, hb, hml, hown, hts⟩ (m_X7_asks l hL N e5 H.size) (cwV 1 hts gX7_kind_X7_asks rfl rfl rfl (by decide +kernel) ⟨Nat.le_of_ble_eq_true rfl, Nat.le_of_ble_eq_true rfl⟩) (z_preV (q := (RX7, TX7, 20)) hK hL hE hW hS (zK_of g3) (by decide) rfl [.int q1]) rfl rfl hl.1 rfl (lv_room (Nat.le_of_ble_eq_true rfl)) dX7_kind_7 ⟨Nat.le_of_ble_eq_true rfl, Nat.le_of_ble_eq_true rfl⟩) (fun H locs hW hS => ?_)
  refine lv_if_eq (tgt := 27) hx hb dX7_kind_10 (by decide) (fun c7 => ?_) (fun c7 => ?_)
  · have h := zip c7 h
    refine lv_iconst (v := 0) hx hb dX7_kind_27 (by decide) ?_
    exact z_iret hx hb hr hlocks hW hS (congrArg Prod.fst (Option.some.inj h)) (congrArg Prod.snd (Option.some.inj h)) dX7_kind_28
  · have h := zin c7 h
    refine lv_aload_n hx hb dX7_kind_13 rfl (lv_at hl 0 rfl) ?_
    obtain ⟨b8, e9, h⟩ := zb_some h
    refine z_get (own := RX7) (C := RX7) (T := TX7) (N := 20) (ci := 7) hx hb hts hinX7 hown hK hL hW 2 (zK_of g3) rfl (by decide) (by decide) rfl (hts (.fieldLink RX7 13 "ArcLightModel" "kind" "[I") (by decide +kernel)) (v := .ref (ad b8)) (zhvR e9 rfl) dX7_kind_14 ?_
    refine lv_bipush (v := 7) hx hb dX7_kind_17 (by decide) ?_
    refine lv_iload_n hx hb dX7_kind_19 rfl (lv_at hl 1 rfl) ?_
    refine lv_imul hx hb dX7_kind_20 ?_
    refine lv_iload_n hx hb dX7_kind_21 rfl (lv_at hl 2 rfl) ?_
    refine lv_iadd hx hb dX7_kind_22 ?_
    obtain ⟨g10, h⟩ := zg_some h
    refine z_iald hx hb hK hL hW g10 dX7_kind_23 ?_
    refine lv_goto (tgt := 28) hx hb dX7_kind_24 (by decide) ?_
    exact z_iret hx hb hr hlocks hW hS (congrArg Prod.fst (Option.some.inj h)) (congrArg Prod.snd (Option.some.inj h)) dX7_kind_28
def f_X7_kind (N : Nat) (K len : Nat → Nat) (a0 : Nat) (a1 : Int32) (a2 : Int32) (M : ZM) : Option (Int32 × ZM) := f_X7_kind_0 N K len a0 a1 a2 M
set_option maxRecDepth 100000 in
set_option maxHeartbeats 4000000 in
theorem m_X7_kind (l : Launch) {D : va_G} {cy : Nat → ClassId} {ad : Nat → Nat} {L : List Nat} {K len : Nat → Nat} (hL : zSh ad L K) (N : Nat) {a0 : Nat} {a1 : Int32} {a2 : Int32} {M : ZM} {r : Int32} {Mr : ZM} (h : f_X7_kind N K len a0 a1 a2 M = some (r, Mr)) (sz : Nat) : Met l yX7_kind wsX7_kind ({ frames := 2, cells := 0, slots := 0, locals := 43 } : Room) (zPre D cy ad L K len sz [.ref (ad a0), .int a1, .int a2] M) (zQi D cy ad L K len r Mr sz) 0 0 (zA ad L sz) :=
  z_entry (Qf := fun sz => zQi D cy ad L K len r Mr sz) (av := [.ref (ad a0), .int a1, .int a2]) (by decide) rfl rfl hL (Nat.le_of_ble_eq_true rfl) (fun p e s m args below meth c C0 H locs ls hW hS hl => t_X7_kind_0 C0 N h hW hS (lv_sub hl [0, 1, 2] rfl))
def f_X7_remembers_99 (N : Nat) (K len : Nat → Nat) (s0 : Int32) (s1 : Int32) (s2 : Nat) (M : ZM) : Option (ZM) :=
zg (K s2 == 8) (
zl (zsI M s2 8 (s1 + s0)) fun M2 => (
some M2))
set_option maxRecDepth 100000 in
set_option maxHeartbeats 4000000 in
theorem t_X7_remembers_99 {p : Program} {l : Launch} {e : Env} {s : State} {m : MethodId} {args : Array Value} {below : List Frame} {meth : Method} {c : Code} {D : va_G} {cy : Nat → ClassId} {ad : Nat → Nat} {L : List Nat} {K len : Nat → Nat} (C0 : zCx p s m c meth args cX7_remembers 4 wsX7_remembers RX7 none D cy ad L K) (N : Nat) {s0 : Int32} {s1 : Int32} {s2 : Nat} {M : ZM} {Mr : ZM} (h : f_X7_remembers_99 N K len s0 s1 s2 M = some Mr) {H : Heap} {locs : List Loc} {ls : Array Slot} (hW : zWd D cy ad L K len M H) (hS : va_S (zA ad L s.heap.size) s.heap H locs) (hl : lv_has ls 4 []) : W p l e (headSpec wsX7_remembers ({ frames := 0, cells := 0, slots := 0, locals := 0 } : Room)).room s m args below meth c H locs 0 0 (MQ below (zQv D cy ad L K len Mr s.heap.size) args s 0 0 (zA ad L s.heap.size)) (F0 m 99 ls [.int s0, .int s1, .ref (ad s2)]) := by
  obtain ⟨hx, hb, hr, hml, hown, hts, hlocks, hK, hL, hE⟩ := id C0
  have hinX7 : ∀ w ∈ wsX70, w ∈ wsX7_remembers := by decide +kernel
  unfold f_X7_remembers_99 at h
  refine lv_iadd hx hb dX7_remembers_99 ?_
  obtain ⟨g1, h⟩ := zg_some h
  refine z_put (own := RX7) (C := RX7) (T := TX7) (N := 20) (ci := 7) (v := .int (s1 + s0)) (M' := zsI M s2 8 (s1 + s0)) hx hb hts hinX7 tyX7 tyX7_ok nmX7 hown hK hL hW hS 8 (zK_of g1) rfl (by decide) (by decide) rfl (hts (.fieldLink RX7 83 "ArcLightModel" "back" "I") (by decide +kernel)) rfl (ty := .int) (by decide +kernel) rfl rfl (Nat.le_of_ble_eq_true rfl) dX7_remembers_100 (zM_I (zK_of g1) (by decide) rfl) (fun H locs hW hS => ?_)
  obtain ⟨M2, eM3, h⟩ := zl_some h
  rw [← eM3] at hW
  exact z_vret hx hb hr hlocks hW hS (Option.some.inj h) dX7_remembers_103
def f_X7_remembers_77 (N : Nat) (K len : Nat → Nat) (x0 : Nat) (s0 : Int32) (s1 : Nat) (M : ZM) : Option (ZM) :=
zg (K s1 == 8) (
zl (zsI M s1 9 s0) fun M2 => (
zg (K x0 == 8) (
(if (20 : Int32) ≤ (zI M2 x0 8) then
f_X7_remembers_99 N K len  (0 : Int32) (zI M2 x0 8) x0 M2
else
f_X7_remembers_99 N K len  (1 : Int32) (zI M2 x0 8) x0 M2))))
set_option maxRecDepth 100000 in
set_option maxHeartbeats 4000000 in
theorem t_X7_remembers_77 {p : Program} {l : Launch} {e : Env} {s : State} {m : MethodId} {args : Array Value} {below : List Frame} {meth : Method} {c : Code} {D : va_G} {cy : Nat → ClassId} {ad : Nat → Nat} {L : List Nat} {K len : Nat → Nat} (C0 : zCx p s m c meth args cX7_remembers 4 wsX7_remembers RX7 none D cy ad L K) (N : Nat) {x0 : Nat} {s0 : Int32} {s1 : Nat} {M : ZM} {Mr : ZM} (h : f_X7_remembers_77 N K len x0 s0 s1 M = some Mr) {H : Heap} {locs : List Loc} {ls : Array Slot} (hW : zWd D cy ad L K len M H) (hS : va_S (zA ad L s.heap.size) s.heap H locs) (hl : lv_has ls 4 [(0, .ref (ad x0))]) : W p l e (headSpec wsX7_remembers ({ frames := 0, cells := 0, slots := 0, locals := 0 } : Room)).room s m args below meth c H locs 0 0 (MQ below (zQv D cy ad L K len Mr s.heap.size) args s 0 0 (zA ad L s.heap.size)) (F0 m 77 ls [.int s0, .ref (ad s1)]) := by
  obtain ⟨hx, hb, hr, hml, hown, hts, hlocks, hK, hL, hE⟩ := id C0
  have hinX7 : ∀ w ∈ wsX70, w ∈ wsX7_remembers := by decide +kernel
  unfold f_X7_remembers_77 at h
  obtain ⟨g1, h⟩ := zg_some h
  refine z_put (own := RX7) (C := RX7) (T := TX7) (N := 20) (ci := 7) (v := .int s0) (M' := zsI M s1 9 s0) hx hb hts hinX7 tyX7 tyX7_ok nmX7 hown hK hL hW hS 9 (zK_of g1) rfl (by decide) (by decide) rfl (hts (.fieldLink RX7 80 "ArcLightModel" "first" "I") (by decide +kernel)) rfl (ty := .int) (by decide +kernel) rfl rfl (Nat.le_of_ble_eq_true rfl) dX7_remembers_77 (zM_I (zK_of g1) (by decide) rfl) (fun H locs hW hS => ?_)
  obtain ⟨M2, eM3, h⟩ := zl_some h
  rw [← eM3] at hW
  refine lv_aload_n hx hb dX7_remembers_80 rfl (lv_at hl 0 rfl) ?_
  refine lv_dup hx hb dX7_remembers_81 rfl ?_
  obtain ⟨g4, h⟩ := zg_some h
  refine z_get (own := RX7) (C := RX7) (T := TX7) (N := 20) (ci := 7) hx hb hts hinX7 hown hK hL hW 8 (zK_of g4) rfl (by decide) (by decide) rfl (hts (.fieldLink RX7 83 "ArcLightModel" "back" "I") (by decide +kernel)) (v := .int (zI M2 x0 8)) rfl dX7_remembers_82 ?_
  refine lv_aload_n hx hb dX7_remembers_85 rfl (lv_at hl 0 rfl) ?_
  refine z_get (own := RX7) (C := RX7) (T := TX7) (N := 20) (ci := 7) hx hb hts hinX7 hown hK hL hW 8 (zK_of g4) rfl (by decide) (by decide) rfl (hts (.fieldLink RX7 83 "ArcLightModel" "back" "I") (by decide +kernel)) (v := .int (zI M2 x0 8)) rfl dX7_remembers_86 ?_
  refine lv_bipush (v := 20) hx hb dX7_remembers_89 (by decide) ?_
  refine lv_icmp_ge (tgt := 98) hx hb dX7_remembers_91 (by decide) (fun c5 => ?_) (fun c5 => ?_)
  · have h := zip c5 h
    refine lv_iconst (v := 0) hx hb dX7_remembers_98 (by decide) ?_
    exact t_X7_remembers_99 C0 N  h hW hS (lv_sub hl [] rfl)
  · have h := zin c5 h
    refine lv_iconst (v := 1) hx hb dX7_remembers_94 (by decide) ?_
    refine lv_goto (tgt := 99) hx hb dX7_remembers_95 (by decide) ?_
    exact t_X7_remembers_99 C0 N  h hW hS (lv_sub hl [] rfl)
def f_X7_remembers_22 (N : Nat) (K len : Nat → Nat) : Nat → Nat → Int32 → Int32 → ZM → Option (ZM)
  | 0, _, _, _, _ => none
  | n + 1, x0, x2, x3, M =>
    (if (28 : Int32) ≤ x3 then
    zg (K x0 == 8) (
    (if (20 : Int32) ≤ (zI M x0 8) then
    f_X7_remembers_77 N K len  x0 (((zI M x0 9) + (1 : Int32)) - ((zI M x0 9) + (1 : Int32)) / (20 : Int32) * (20 : Int32)) x0 M
    else
    f_X7_remembers_77 N K len  x0 (zI M x0 9) x0 M))
    else
    zg (K x0 == 8) (
    (zR M x0 11).bind fun b5 => (
    (zR M x0 5).bind fun b7 => (
    zg (zok K len b7 11 x3) (
    zg (zok K len b5 11 (((28 : Int32) * x2) + x3)) (
    zl (zsI M b5 (((28 : Int32) * x2) + x3).toNatClampNeg (zI M b7 x3.toNatClampNeg)) fun M11 => (
    f_X7_remembers_22 N K len  n x0 x2 (x3 + 1) M11)))))))
set_option maxRecDepth 100000 in
set_option maxHeartbeats 4000000 in
theorem t_X7_remembers_22 {p : Program} {l : Launch} {e : Env} {s : State} {m : MethodId} {args : Array Value} {below : List Frame} {meth : Method} {c : Code} {D : va_G} {cy : Nat → ClassId} {ad : Nat → Nat} {L : List Nat} {K len : Nat → Nat} (C0 : zCx p s m c meth args cX7_remembers 4 wsX7_remembers RX7 none D cy ad L K) (N : Nat) {Mr : ZM} : ∀ (n : Nat) {x0 : Nat} {x2 : Int32} {x3 : Int32} {M : ZM}, f_X7_remembers_22 N K len n x0 x2 x3 M = some Mr → ∀ {H : Heap} {locs : List Loc} {ls : Array Slot}, zWd D cy ad L K len M H → va_S (zA ad L s.heap.size) s.heap H locs → lv_has ls 4 [(0, .ref (ad x0)), (2, .int x2), (3, .int x3)] → W p l e (headSpec wsX7_remembers ({ frames := 0, cells := 0, slots := 0, locals := 0 } : Room)).room s m args below meth c H locs 0 0 (MQ below (zQv D cy ad L K len Mr s.heap.size) args s 0 0 (zA ad L s.heap.size)) (F0 m 22 ls []) := by
  obtain ⟨hx, hb, hr, hml, hown, hts, hlocks, hK, hL, hE⟩ := id C0
  have hinX7 : ∀ w ∈ wsX70, w ∈ wsX7_remembers := by decide +kernel
  intro n
  induction n with
  | zero =>
    intro x0 x2 x3 M h
    cases (show (none : Option (ZM)) = some Mr from h)
  | succ n ih =>
    intro x0 x2 x3 M h H locs ls hW hS hl
    rw [f_X7_remembers_22] at h
    refine lv_iload_n hx hb dX7_remembers_22 rfl (lv_at hl 2 rfl) ?_
    refine lv_bipush (v := 28) hx hb dX7_remembers_23 (by decide) ?_
    refine lv_icmp_ge (tgt := 51) hx hb dX7_remembers_25 (by decide) (fun c1 => ?_) (fun c1 => ?_)
    · have h := zip c1 h
      refine lv_aload_n hx hb dX7_remembers_51 rfl (lv_at hl 0 rfl) ?_
      refine lv_aload_n hx hb dX7_remembers_52 rfl (lv_at hl 0 rfl) ?_
      obtain ⟨g2, h⟩ := zg_some h
      refine z_get (own := RX7) (C := RX7) (T := TX7) (N := 20) (ci := 7) hx hb hts hinX7 hown hK hL hW 8 (zK_of g2) rfl (by decide) (by decide) rfl (hts (.fieldLink RX7 83 "ArcLightModel" "back" "I") (by decide +kernel)) (v := .int (zI M x0 8)) rfl dX7_remembers_53 ?_
      refine lv_bipush (v := 20) hx hb dX7_remembers_56 (by decide) ?_
      refine lv_icmp_ge (tgt := 68) hx hb dX7_remembers_58 (by decide) (fun c3 => ?_) (fun c3 => ?_)
      · have h := zip c3 h
        refine lv_aload_n hx hb dX7_remembers_68 rfl (lv_at hl 0 rfl) ?_
        refine z_get (own := RX7) (C := RX7) (T := TX7) (N := 20) (ci := 7) hx hb hts hinX7 hown hK hL hW 9 (zK_of g2) rfl (by decide) (by decide) rfl (hts (.fieldLink RX7 80 "ArcLightModel" "first" "I") (by decide +kernel)) (v := .int (zI M x0 9)) rfl dX7_remembers_69 ?_
        refine lv_iconst (v := 1) hx hb dX7_remembers_72 (by decide) ?_
        refine lv_iadd hx hb dX7_remembers_73 ?_
        refine lv_bipush (v := 20) hx hb dX7_remembers_74 (by decide) ?_
        refine lv_irem hx hb dX7_remembers_76 (by decide) ?_
        exact t_X7_remembers_77 C0 N  h hW hS (lv_sub hl [0] rfl)
      · have h := zin c3 h
        refine lv_aload_n hx hb dX7_remembers_61 rfl (lv_at hl 0 rfl) ?_
        refine z_get (own := RX7) (C := RX7) (T := TX7) (N := 20) (ci := 7) hx hb hts hinX7 hown hK hL hW 9 (zK_of g2) rfl (by decide) (by decide) rfl (hts (.fieldLink RX7 80 "ArcLightModel" "first" "I") (by decide +kernel)) (v := .int (zI M x0 9)) rfl dX7_remembers_62 ?_
        refine lv_goto (tgt := 77) hx hb dX7_remembers_65 (by decide) ?_
        exact t_X7_remembers_77 C0 N  h hW hS (lv_sub hl [0] rfl)
    · have h := zin c1 h
      refine lv_aload_n hx hb dX7_remembers_28 rfl (lv_at hl 0 rfl) ?_
      obtain ⟨g4, h⟩ := zg_some h
      obtain ⟨b5, e6, h⟩ := zb_some h
      refine z_get (own := RX7) (C := RX7) (T := TX7) (N := 20) (ci := 7) hx hb hts hinX7 hown hK hL hW 11 (zK_of g4) rfl (by decide) (by decide) rfl (hts (.fieldLink RX7 32 "ArcLightModel" "weights" "[I") (by decide +kernel)) (v := .ref (ad b5)) (zhvR e6 rfl) dX7_remembers_29 ?_
      refine lv_bipush (v := 28) hx hb dX7_remembers_32 (by decide) ?_
      refine lv_iload_n hx hb dX7_remembers_34 rfl (lv_at hl 1 rfl) ?_
      refine lv_imul hx hb dX7_remembers_35 ?_
      refine lv_iload_n hx hb dX7_remembers_36 rfl (lv_at hl 2 rfl) ?_
      refine lv_iadd hx hb dX7_remembers_37 ?_
      refine lv_aload_n hx hb dX7_remembers_38 rfl (lv_at hl 0 rfl) ?_
      obtain ⟨b7, e8, h⟩ := zb_some h
      refine z_get (own := RX7) (C := RX7) (T := TX7) (N := 20) (ci := 7) hx hb hts hinX7 hown hK hL hW 5 (zK_of g4) rfl (by decide) (by decide) rfl (hts (.fieldLink RX7 22 "ArcLightModel" "weight" "[I") (by decide +kernel)) (v := .ref (ad b7)) (zhvR e8 rfl) dX7_remembers_39 ?_
      refine lv_iload_n hx hb dX7_remembers_42 rfl (lv_at hl 2 rfl) ?_
      obtain ⟨g9, h⟩ := zg_some h
      refine z_iald hx hb hK hL hW g9 dX7_remembers_43 ?_
      obtain ⟨g10, h⟩ := zg_some h
      refine z_iast hx hb hK hL hW hS g10 dX7_remembers_44 (fun H locs hW hS => ?_)
      obtain ⟨M11, eM12, h⟩ := zl_some h
      rw [← eM12] at hW
      refine lv_iinc (k := 2) (v := (x3 + 1)) (lv' := [(3, .int (x3 + 1)), (0, .ref (ad x0)), (2, .int x2)]) hx hb dX7_remembers_45 hl rfl (by rw [show Int32.ofInt 1 = (1 : Int32) from by decide]) (by decide) rfl (fun ls hl => ?_)
      refine lv_goto (tgt := 22) hx hb dX7_remembers_48 (by decide) ?_
      exact ih h hW hS (lv_sub hl [1, 2, 0] rfl)
def f_X7_remembers_0 (N : Nat) (K len : Nat → Nat) (x0 : Nat) (x1 : Int32) (M : ZM) : Option (ZM) :=
zg (K x0 == 8) (
(zR M x0 10).bind fun b2 => (
zg (zok K len b2 11 (((zI M x0 9) + (zI M x0 8)) - ((zI M x0 9) + (zI M x0 8)) / (20 : Int32) * (20 : Int32))) (
zl (zsI M b2 (((zI M x0 9) + (zI M x0 8)) - ((zI M x0 9) + (zI M x0 8)) / (20 : Int32) * (20 : Int32)).toNatClampNeg x1) fun M5 => (
f_X7_remembers_22 N K len  N x0 (((zI M x0 9) + (zI M x0 8)) - ((zI M x0 9) + (zI M x0 8)) / (20 : Int32) * (20 : Int32)) (0 : Int32) M5))))
set_option maxRecDepth 100000 in
set_option maxHeartbeats 4000000 in
theorem t_X7_remembers_0 {p : Program} {l : Launch} {e : Env} {s : State} {m : MethodId} {args : Array Value} {below : List Frame} {meth : Method} {c : Code} {D : va_G} {cy : Nat → ClassId} {ad : Nat → Nat} {L : List Nat} {K len : Nat → Nat} (C0 : zCx p s m c meth args cX7_remembers 4 wsX7_remembers RX7 none D cy ad L K) (N : Nat) {x0 : Nat} {x1 : Int32} {M : ZM} {Mr : ZM} (h : f_X7_remembers_0 N K len x0 x1 M = some Mr) {H : Heap} {locs : List Loc} {ls : Array Slot} (hW : zWd D cy ad L K len M H) (hS : va_S (zA ad L s.heap.size) s.heap H locs) (hl : lv_has ls 4 [(0, .ref (ad x0)), (1, .int x1)]) : W p l e (headSpec wsX7_remembers ({ frames := 0, cells := 0, slots := 0, locals := 0 } : Room)).room s m args below meth c H locs 0 0 (MQ below (zQv D cy ad L K len Mr s.heap.size) args s 0 0 (zA ad L s.heap.size)) (F0 m 0 ls []) := by
  obtain ⟨hx, hb, hr, hml, hown, hts, hlocks, hK, hL, hE⟩ := id C0
  have hinX7 : ∀ w ∈ wsX70, w ∈ wsX7_remembers := by decide +kernel
  unfold f_X7_remembers_0 at h
  refine lv_aload_n hx hb dX7_remembers_0 rfl (lv_at hl 0 rfl) ?_
  obtain ⟨g1, h⟩ := zg_some h
  refine z_get (own := RX7) (C := RX7) (T := TX7) (N := 20) (ci := 7) hx hb hts hinX7 hown hK hL hW 9 (zK_of g1) rfl (by decide) (by decide) rfl (hts (.fieldLink RX7 80 "ArcLightModel" "first" "I") (by decide +kernel)) (v := .int (zI M x0 9)) rfl dX7_remembers_1 ?_
  refine lv_aload_n hx hb dX7_remembers_4 rfl (lv_at hl 0 rfl) ?_
  refine z_get (own := RX7) (C := RX7) (T := TX7) (N := 20) (ci := 7) hx hb hts hinX7 hown hK hL hW 8 (zK_of g1) rfl (by decide) (by decide) rfl (hts (.fieldLink RX7 83 "ArcLightModel" "back" "I") (by decide +kernel)) (v := .int (zI M x0 8)) rfl dX7_remembers_5 ?_
  refine lv_iadd hx hb dX7_remembers_8 ?_
  refine lv_bipush (v := 20) hx hb dX7_remembers_9 (by decide) ?_
  refine lv_irem hx hb dX7_remembers_11 (by decide) ?_
  refine lv_istore_n (lv' := [(2, .int (((zI M x0 9) + (zI M x0 8)) - ((zI M x0 9) + (zI M x0 8)) / (20 : Int32) * (20 : Int32))), (0, .ref (ad x0)), (1, .int x1)]) hx hb dX7_remembers_12 rfl hl (by decide) rfl (fun ls hl => ?_)
  refine lv_aload_n hx hb dX7_remembers_13 rfl (lv_at hl 1 rfl) ?_
  obtain ⟨b2, e3, h⟩ := zb_some h
  refine z_get (own := RX7) (C := RX7) (T := TX7) (N := 20) (ci := 7) hx hb hts hinX7 hown hK hL hW 10 (zK_of g1) rfl (by decide) (by decide) rfl (hts (.fieldLink RX7 29 "ArcLightModel" "was" "[I") (by decide +kernel)) (v := .ref (ad b2)) (zhvR e3 rfl) dX7_remembers_14 ?_
  refine lv_iload_n hx hb dX7_remembers_17 rfl (lv_at hl 0 rfl) ?_
  refine lv_iload_n hx hb dX7_remembers_18 rfl (lv_at hl 2 rfl) ?_
  obtain ⟨g4, h⟩ := zg_some h
  refine z_iast hx hb hK hL hW hS g4 dX7_remembers_19 (fun H locs hW hS => ?_)
  obtain ⟨M5, eM6, h⟩ := zl_some h
  rw [← eM6] at hW
  refine lv_iconst (v := 0) hx hb dX7_remembers_20 (by decide) ?_
  refine lv_istore_n (lv' := [(3, .int (0 : Int32)), (2, .int (((zI M x0 9) + (zI M x0 8)) - ((zI M x0 9) + (zI M x0 8)) / (20 : Int32) * (20 : Int32))), (0, .ref (ad x0)), (1, .int x1)]) hx hb dX7_remembers_21 rfl hl (by decide) rfl (fun ls hl => ?_)
  exact t_X7_remembers_22 C0 N  N h hW hS (lv_sub hl [2, 1, 0] rfl)
def f_X7_remembers (N : Nat) (K len : Nat → Nat) (a0 : Nat) (a1 : Int32) (M : ZM) : Option (ZM) := f_X7_remembers_0 N K len a0 a1 M
set_option maxRecDepth 100000 in
set_option maxHeartbeats 4000000 in
theorem m_X7_remembers (l : Launch) {D : va_G} {cy : Nat → ClassId} {ad : Nat → Nat} {L : List Nat} {K len : Nat → Nat} (hL : zSh ad L K) (N : Nat) {a0 : Nat} {a1 : Int32} {M : ZM} {Mr : ZM} (h : f_X7_remembers N K len a0 a1 M = some Mr) (sz : Nat) : Met l yX7_remembers wsX7_remembers ({ frames := 0, cells := 0, slots := 0, locals := 0 } : Room) (zPre D cy ad L K len sz [.ref (ad a0), .int a1] M) (zQv D cy ad L K len Mr sz) 0 0 (zA ad L sz) :=
  z_entry (Qf := fun sz => zQv D cy ad L K len Mr sz) (av := [.ref (ad a0), .int a1]) (by decide) rfl rfl hL (Nat.le_of_ble_eq_true rfl) (fun p e s m args below meth c C0 H locs ls hW hS hl => t_X7_remembers_0 C0 N h hW hS (lv_sub hl [0, 1] rfl))
def f_X7_setWeight_36 (N : Nat) (K len : Nat → Nat) (x0 : Nat) (M : ZM) : Option (Int32 × ZM) :=
zbp (f_X7_fails N K len x0 (2 : Int32) M) fun q1 M3 => (
zg (K x0 == 8) (
some (q1, M3)))
set_option maxRecDepth 100000 in
set_option maxHeartbeats 4000000 in
theorem t_X7_setWeight_36 {p : Program} {l : Launch} {e : Env} {s : State} {m : MethodId} {args : Array Value} {below : List Frame} {meth : Method} {c : Code} {D : va_G} {cy : Nat → ClassId} {ad : Nat → Nat} {L : List Nat} {K len : Nat → Nat} (C0 : zCx p s m c meth args cX7_setWeight 4 wsX7_setWeight RX7 (some .int) D cy ad L K) (N : Nat) {x0 : Nat} {M : ZM} {r : Int32} {Mr : ZM} (h : f_X7_setWeight_36 N K len x0 M = some (r, Mr)) {H : Heap} {locs : List Loc} {ls : Array Slot} (hW : zWd D cy ad L K len M H) (hS : va_S (zA ad L s.heap.size) s.heap H locs) (hl : lv_has ls 4 [(0, .ref (ad x0))]) : W p l e (headSpec wsX7_setWeight ({ frames := 1, cells := 0, slots := 0, locals := 23 } : Room)).room s m args below meth c H locs 0 0 (MQ below (zQi D cy ad L K len r Mr s.heap.size) args s 0 0 (zA ad L s.heap.size)) (F0 m 36 ls []) := by
  obtain ⟨hx, hb, hr, hml, hown, hts, hlocks, hK, hL, hE⟩ := id C0
  unfold f_X7_setWeight_36 at h
  refine lv_aload_n hx hb dX7_setWeight_36 rfl (lv_at hl 0 rfl) ?_
  refine lv_iconst (v := 2) hx hb dX7_setWeight_37 (by decide) ?_
  obtain ⟨q1, M3, e2, h⟩ := zbp_some h
  obtain ⟨g4, h⟩ := zg_some h
  refine z_calli hS (va_runV (As := [.int (2 : Int32)]) (rest := []) ⟨hx, hb, hml, hown, hts⟩ (m_X7_fails l hL N e2 H.size) (cwV 1 hts gX7_setWeight_X7_fails rfl rfl rfl (by decide +kernel) ⟨Nat.le_of_ble_eq_true rfl, Nat.le_of_ble_eq_true rfl⟩) (z_preV (q := (RX7, TX7, 20)) hK hL hE hW hS (zK_of g4) (by decide) rfl [.int (2 : Int32)]) rfl rfl hl.1 rfl (lv_room (Nat.le_of_ble_eq_true rfl)) dX7_setWeight_38 ⟨Nat.le_of_ble_eq_true rfl, Nat.le_of_ble_eq_true rfl⟩) (fun H locs hW hS => ?_)
  exact z_iret hx hb hr hlocks hW hS (congrArg Prod.fst (Option.some.inj h)) (congrArg Prod.snd (Option.some.inj h)) dX7_setWeight_41
def f_X7_setWeight_16 (N : Nat) (K len : Nat → Nat) (x0 : Nat) (x1 : Int32) (x2 : Int32) (s0 : Int32) (s1 : Nat) (M : ZM) : Option (Int32 × ZM) :=
zbp (f_X7_asks N K len s1 s0 M) fun q1 M3 => (
zg (K s1 == 8) (
(if q1 = 0 then
some ((0 : Int32), M3)
else
(if x2 < (-100 : Int32) then
f_X7_setWeight_36 N K len  x0 M3
else
(if x2 ≤ (100 : Int32) then
(f_X7_remembers N K len x0 x1 M3).bind fun M10 => (
zg (K x0 == 8) (
(zR M10 x0 5).bind fun b12 => (
zg (zok K len b12 11 x1) (
zl (zsI M10 b12 x1.toNatClampNeg x2) fun M15 => (
(f_X7_changed N K len x0 M15).bind fun M19 => (
some ((zI M10 b12 x1.toNatClampNeg), M19)))))))
else
f_X7_setWeight_36 N K len  x0 M3)))))
set_option maxRecDepth 100000 in
set_option maxHeartbeats 4000000 in
theorem t_X7_setWeight_16 {p : Program} {l : Launch} {e : Env} {s : State} {m : MethodId} {args : Array Value} {below : List Frame} {meth : Method} {c : Code} {D : va_G} {cy : Nat → ClassId} {ad : Nat → Nat} {L : List Nat} {K len : Nat → Nat} (C0 : zCx p s m c meth args cX7_setWeight 4 wsX7_setWeight RX7 (some .int) D cy ad L K) (N : Nat) {x0 : Nat} {x1 : Int32} {x2 : Int32} {s0 : Int32} {s1 : Nat} {M : ZM} {r : Int32} {Mr : ZM} (h : f_X7_setWeight_16 N K len x0 x1 x2 s0 s1 M = some (r, Mr)) {H : Heap} {locs : List Loc} {ls : Array Slot} (hW : zWd D cy ad L K len M H) (hS : va_S (zA ad L s.heap.size) s.heap H locs) (hl : lv_has ls 4 [(0, .ref (ad x0)), (1, .int x1), (2, .int x2)]) : W p l e (headSpec wsX7_setWeight ({ frames := 1, cells := 0, slots := 0, locals := 23 } : Room)).room s m args below meth c H locs 0 0 (MQ below (zQi D cy ad L K len r Mr s.heap.size) args s 0 0 (zA ad L s.heap.size)) (F0 m 16 ls [.int s0, .ref (ad s1)]) := by
  obtain ⟨hx, hb, hr, hml, hown, hts, hlocks, hK, hL, hE⟩ := id C0
  have hinX7 : ∀ w ∈ wsX70, w ∈ wsX7_setWeight := by decide +kernel
  unfold f_X7_setWeight_16 at h
  obtain ⟨q1, M3, e2, h⟩ := zbp_some h
  obtain ⟨g4, h⟩ := zg_some h
  refine z_calli hS (va_runV (As := [.int s0]) (rest := []) ⟨hx, hb, hml, hown, hts⟩ (m_X7_asks l hL N e2 H.size) (cwV 1 hts gX7_setWeight_X7_asks rfl rfl rfl (by decide +kernel) ⟨Nat.le_of_ble_eq_true rfl, Nat.le_of_ble_eq_true rfl⟩) (z_preV (q := (RX7, TX7, 20)) hK hL hE hW hS (zK_of g4) (by decide) rfl [.int s0]) rfl rfl hl.1 rfl (lv_room (Nat.le_of_ble_eq_true rfl)) dX7_setWeight_16 ⟨Nat.le_of_ble_eq_true rfl, Nat.le_of_ble_eq_true rfl⟩) (fun H locs hW hS => ?_)
  refine lv_if_ne (tgt := 24) hx hb dX7_setWeight_19 (by decide) (fun c5 => ?_) (fun c5 => ?_)
  · have h := zin c5 h
    refine lv_iload_n hx hb dX7_setWeight_24 rfl (lv_at hl 2 rfl) ?_
    refine lv_bipush (v := -100) hx hb dX7_setWeight_25 (by decide) ?_
    refine lv_icmp_lt (tgt := 36) hx hb dX7_setWeight_27 (by decide) (fun c6 => ?_) (fun c6 => ?_)
    · have h := zip c6 h
      exact t_X7_setWeight_36 C0 N  h hW hS (lv_sub hl [0] rfl)
    · have h := zin c6 h
      refine lv_iload_n hx hb dX7_setWeight_30 rfl (lv_at hl 2 rfl) ?_
      refine lv_bipush (v := 100) hx hb dX7_setWeight_31 (by decide) ?_
      refine lv_icmp_le (tgt := 42) hx hb dX7_setWeight_33 (by decide) (fun c7 => ?_) (fun c7 => ?_)
      · have h := zip c7 h
        refine lv_aload_n hx hb dX7_setWeight_42 rfl (lv_at hl 0 rfl) ?_
        refine lv_iload_n hx hb dX7_setWeight_43 rfl (lv_at hl 1 rfl) ?_
        obtain ⟨M10, e9, h⟩ := zb_some h
        obtain ⟨g11, h⟩ := zg_some h
        refine z_callv hS (va_runV (As := [.int x1]) (rest := []) ⟨hx, hb, hml, hown, hts⟩ (m_X7_remembers l hL N e9 H.size) (cwV 1 hts gX7_setWeight_X7_remembers rfl rfl rfl (by decide +kernel) ⟨Nat.le_of_ble_eq_true rfl, Nat.le_of_ble_eq_true rfl⟩) (z_preV (q := (RX7, TX7, 20)) hK hL hE hW hS (zK_of g11) (by decide) rfl [.int x1]) rfl rfl hl.1 rfl (lv_room (Nat.le_of_ble_eq_true rfl)) dX7_setWeight_44 ⟨Nat.le_of_ble_eq_true rfl, Nat.le_of_ble_eq_true rfl⟩) (fun H locs hW hS => ?_)
        refine lv_aload_n hx hb dX7_setWeight_47 rfl (lv_at hl 0 rfl) ?_
        obtain ⟨b12, e13, h⟩ := zb_some h
        refine z_get (own := RX7) (C := RX7) (T := TX7) (N := 20) (ci := 7) hx hb hts hinX7 hown hK hL hW 5 (zK_of g11) rfl (by decide) (by decide) rfl (hts (.fieldLink RX7 22 "ArcLightModel" "weight" "[I") (by decide +kernel)) (v := .ref (ad b12)) (zhvR e13 rfl) dX7_setWeight_48 ?_
        refine lv_iload_n hx hb dX7_setWeight_51 rfl (lv_at hl 1 rfl) ?_
        obtain ⟨g14, h⟩ := zg_some h
        refine z_iald hx hb hK hL hW g14 dX7_setWeight_52 ?_
        refine lv_istore_n (lv' := [(3, .int (zI M10 b12 x1.toNatClampNeg)), (0, .ref (ad x0)), (1, .int x1), (2, .int x2)]) hx hb dX7_setWeight_53 rfl hl (by decide) rfl (fun ls hl => ?_)
        refine lv_aload_n hx hb dX7_setWeight_54 rfl (lv_at hl 1 rfl) ?_
        refine z_get (own := RX7) (C := RX7) (T := TX7) (N := 20) (ci := 7) hx hb hts hinX7 hown hK hL hW 5 (zK_of g11) rfl (by decide) (by decide) rfl (hts (.fieldLink RX7 22 "ArcLightModel" "weight" "[I") (by decide +kernel)) (v := .ref (ad b12)) (zhvR e13 rfl) dX7_setWeight_55 ?_
        refine lv_iload_n hx hb dX7_setWeight_58 rfl (lv_at hl 2 rfl) ?_
        refine lv_iload_n hx hb dX7_setWeight_59 rfl (lv_at hl 3 rfl) ?_
        refine z_iast hx hb hK hL hW hS g14 dX7_setWeight_60 (fun H locs hW hS => ?_)
        obtain ⟨M15, eM16, h⟩ := zl_some h
        rw [← eM16] at hW
        refine lv_aload_n hx hb dX7_setWeight_61 rfl (lv_at hl 1 rfl) ?_
        obtain ⟨M19, e18, h⟩ := zb_some h
        refine z_callv hS (va_runV (As := []) (rest := []) ⟨hx, hb, hml, hown, hts⟩ (m_X7_changed l hL N e18 H.size) (cwV 0 hts gX7_setWeight_X7_changed rfl rfl rfl (by decide +kernel) ⟨Nat.le_of_ble_eq_true rfl, Nat.le_of_ble_eq_true rfl⟩) (z_preV (q := (RX7, TX7, 20)) hK hL hE hW hS (zK_of g11) (by decide) rfl []) rfl rfl hl.1 rfl (lv_room (Nat.le_of_ble_eq_true rfl)) dX7_setWeight_62 ⟨Nat.le_of_ble_eq_true rfl, Nat.le_of_ble_eq_true rfl⟩) (fun H locs hW hS => ?_)
        refine lv_iload_n hx hb dX7_setWeight_65 rfl (lv_at hl 0 rfl) ?_
        exact z_iret hx hb hr hlocks hW hS (congrArg Prod.fst (Option.some.inj h)) (congrArg Prod.snd (Option.some.inj h)) dX7_setWeight_66
      · have h := zin c7 h
        exact t_X7_setWeight_36 C0 N  h hW hS (lv_sub hl [0] rfl)
  · have h := zip c5 h
    refine lv_iconst (v := 0) hx hb dX7_setWeight_22 (by decide) ?_
    exact z_iret hx hb hr hlocks hW hS (congrArg Prod.fst (Option.some.inj h)) (congrArg Prod.snd (Option.some.inj h)) dX7_setWeight_23
def f_X7_setWeight_15 (N : Nat) (K len : Nat → Nat) (x0 : Nat) (x1 : Int32) (x2 : Int32) (s0 : Nat) (M : ZM) : Option (Int32 × ZM) :=
f_X7_setWeight_16 N K len  x0 x1 x2 (0 : Int32) s0 M
set_option maxRecDepth 100000 in
set_option maxHeartbeats 4000000 in
theorem t_X7_setWeight_15 {p : Program} {l : Launch} {e : Env} {s : State} {m : MethodId} {args : Array Value} {below : List Frame} {meth : Method} {c : Code} {D : va_G} {cy : Nat → ClassId} {ad : Nat → Nat} {L : List Nat} {K len : Nat → Nat} (C0 : zCx p s m c meth args cX7_setWeight 4 wsX7_setWeight RX7 (some .int) D cy ad L K) (N : Nat) {x0 : Nat} {x1 : Int32} {x2 : Int32} {s0 : Nat} {M : ZM} {r : Int32} {Mr : ZM} (h : f_X7_setWeight_15 N K len x0 x1 x2 s0 M = some (r, Mr)) {H : Heap} {locs : List Loc} {ls : Array Slot} (hW : zWd D cy ad L K len M H) (hS : va_S (zA ad L s.heap.size) s.heap H locs) (hl : lv_has ls 4 [(0, .ref (ad x0)), (1, .int x1), (2, .int x2)]) : W p l e (headSpec wsX7_setWeight ({ frames := 1, cells := 0, slots := 0, locals := 23 } : Room)).room s m args below meth c H locs 0 0 (MQ below (zQi D cy ad L K len r Mr s.heap.size) args s 0 0 (zA ad L s.heap.size)) (F0 m 15 ls [.ref (ad s0)]) := by
  obtain ⟨hx, hb, hr, hml, hown, hts, hlocks, hK, hL, hE⟩ := id C0
  unfold f_X7_setWeight_15 at h
  refine lv_iconst (v := 0) hx hb dX7_setWeight_15 (by decide) ?_
  exact t_X7_setWeight_16 C0 N  h hW hS (lv_sub hl [0, 1, 2] rfl)
def f_X7_setWeight_0 (N : Nat) (K len : Nat → Nat) (x0 : Nat) (x1 : Int32) (x2 : Int32) (M : ZM) : Option (Int32 × ZM) :=
(if x1 < 0 then
f_X7_setWeight_15 N K len  x0 x1 x2 x0 M
else
(if (28 : Int32) ≤ x1 then
f_X7_setWeight_15 N K len  x0 x1 x2 x0 M
else
f_X7_setWeight_16 N K len  x0 x1 x2 (1 : Int32) x0 M))
set_option maxRecDepth 100000 in
set_option maxHeartbeats 4000000 in
theorem t_X7_setWeight_0 {p : Program} {l : Launch} {e : Env} {s : State} {m : MethodId} {args : Array Value} {below : List Frame} {meth : Method} {c : Code} {D : va_G} {cy : Nat → ClassId} {ad : Nat → Nat} {L : List Nat} {K len : Nat → Nat} (C0 : zCx p s m c meth args cX7_setWeight 4 wsX7_setWeight RX7 (some .int) D cy ad L K) (N : Nat) {x0 : Nat} {x1 : Int32} {x2 : Int32} {M : ZM} {r : Int32} {Mr : ZM} (h : f_X7_setWeight_0 N K len x0 x1 x2 M = some (r, Mr)) {H : Heap} {locs : List Loc} {ls : Array Slot} (hW : zWd D cy ad L K len M H) (hS : va_S (zA ad L s.heap.size) s.heap H locs) (hl : lv_has ls 4 [(0, .ref (ad x0)), (1, .int x1), (2, .int x2)]) : W p l e (headSpec wsX7_setWeight ({ frames := 1, cells := 0, slots := 0, locals := 23 } : Room)).room s m args below meth c H locs 0 0 (MQ below (zQi D cy ad L K len r Mr s.heap.size) args s 0 0 (zA ad L s.heap.size)) (F0 m 0 ls []) := by
  obtain ⟨hx, hb, hr, hml, hown, hts, hlocks, hK, hL, hE⟩ := id C0
  unfold f_X7_setWeight_0 at h
  refine lv_aload_n hx hb dX7_setWeight_0 rfl (lv_at hl 0 rfl) ?_
  refine lv_iload_n hx hb dX7_setWeight_1 rfl (lv_at hl 1 rfl) ?_
  refine lv_if_lt (tgt := 15) hx hb dX7_setWeight_2 (by decide) (fun c1 => ?_) (fun c1 => ?_)
  · have h := zip c1 h
    exact t_X7_setWeight_15 C0 N  h hW hS (lv_sub hl [0, 1, 2] rfl)
  · have h := zin c1 h
    refine lv_iload_n hx hb dX7_setWeight_5 rfl (lv_at hl 1 rfl) ?_
    refine lv_bipush (v := 28) hx hb dX7_setWeight_6 (by decide) ?_
    refine lv_icmp_ge (tgt := 15) hx hb dX7_setWeight_8 (by decide) (fun c2 => ?_) (fun c2 => ?_)
    · have h := zip c2 h
      exact t_X7_setWeight_15 C0 N  h hW hS (lv_sub hl [0, 1, 2] rfl)
    · have h := zin c2 h
      refine lv_iconst (v := 1) hx hb dX7_setWeight_11 (by decide) ?_
      refine lv_goto (tgt := 16) hx hb dX7_setWeight_12 (by decide) ?_
      exact t_X7_setWeight_16 C0 N  h hW hS (lv_sub hl [0, 1, 2] rfl)
def f_X7_setWeight (N : Nat) (K len : Nat → Nat) (a0 : Nat) (a1 : Int32) (a2 : Int32) (M : ZM) : Option (Int32 × ZM) := f_X7_setWeight_0 N K len a0 a1 a2 M
set_option maxRecDepth 100000 in
set_option maxHeartbeats 4000000 in
theorem m_X7_setWeight (l : Launch) {D : va_G} {cy : Nat → ClassId} {ad : Nat → Nat} {L : List Nat} {K len : Nat → Nat} (hL : zSh ad L K) (N : Nat) {a0 : Nat} {a1 : Int32} {a2 : Int32} {M : ZM} {r : Int32} {Mr : ZM} (h : f_X7_setWeight N K len a0 a1 a2 M = some (r, Mr)) (sz : Nat) : Met l yX7_setWeight wsX7_setWeight ({ frames := 1, cells := 0, slots := 0, locals := 23 } : Room) (zPre D cy ad L K len sz [.ref (ad a0), .int a1, .int a2] M) (zQi D cy ad L K len r Mr sz) 0 0 (zA ad L sz) :=
  z_entry (Qf := fun sz => zQi D cy ad L K len r Mr sz) (av := [.ref (ad a0), .int a1, .int a2]) (by decide) rfl rfl hL (Nat.le_of_ble_eq_true rfl) (fun p e s m args below meth c C0 H locs ls hW hS hl => t_X7_setWeight_0 C0 N h hW hS (lv_sub hl [0, 1, 2] rfl))
def f_X7_weight_16 (N : Nat) (K len : Nat → Nat) (x0 : Nat) (x1 : Int32) (s0 : Int32) (s1 : Nat) (M : ZM) : Option (Int32 × ZM) :=
zbp (f_X7_asks N K len s1 s0 M) fun q1 M3 => (
zg (K s1 == 8) (
(if q1 = 0 then
some ((0 : Int32), M3)
else
zg (K x0 == 8) (
(zR M3 x0 5).bind fun b7 => (
zg (zok K len b7 11 x1) (
some ((zI M3 b7 x1.toNatClampNeg), M3)))))))
set_option maxRecDepth 100000 in
set_option maxHeartbeats 4000000 in
theorem t_X7_weight_16 {p : Program} {l : Launch} {e : Env} {s : State} {m : MethodId} {args : Array Value} {below : List Frame} {meth : Method} {c : Code} {D : va_G} {cy : Nat → ClassId} {ad : Nat → Nat} {L : List Nat} {K len : Nat → Nat} (C0 : zCx p s m c meth args cX7_weight 2 wsX7_weight RX7 (some .int) D cy ad L K) (N : Nat) {x0 : Nat} {x1 : Int32} {s0 : Int32} {s1 : Nat} {M : ZM} {r : Int32} {Mr : ZM} (h : f_X7_weight_16 N K len x0 x1 s0 s1 M = some (r, Mr)) {H : Heap} {locs : List Loc} {ls : Array Slot} (hW : zWd D cy ad L K len M H) (hS : va_S (zA ad L s.heap.size) s.heap H locs) (hl : lv_has ls 2 [(0, .ref (ad x0)), (1, .int x1)]) : W p l e (headSpec wsX7_weight ({ frames := 1, cells := 0, slots := 0, locals := 21 } : Room)).room s m args below meth c H locs 0 0 (MQ below (zQi D cy ad L K len r Mr s.heap.size) args s 0 0 (zA ad L s.heap.size)) (F0 m 16 ls [.int s0, .ref (ad s1)]) := by
  obtain ⟨hx, hb, hr, hml, hown, hts, hlocks, hK, hL, hE⟩ := id C0
  have hinX7 : ∀ w ∈ wsX70, w ∈ wsX7_weight := by decide +kernel
  unfold f_X7_weight_16 at h
  obtain ⟨q1, M3, e2, h⟩ := zbp_some h
  obtain ⟨g4, h⟩ := zg_some h
  refine z_calli hS (va_runV (As := [.int s0]) (rest := []) ⟨hx, hb, hml, hown, hts⟩ (m_X7_asks l hL N e2 H.size) (cwV 1 hts gX7_weight_X7_asks rfl rfl rfl (by decide +kernel) ⟨Nat.le_of_ble_eq_true rfl, Nat.le_of_ble_eq_true rfl⟩) (z_preV (q := (RX7, TX7, 20)) hK hL hE hW hS (zK_of g4) (by decide) rfl [.int s0]) rfl rfl hl.1 rfl (lv_room (Nat.le_of_ble_eq_true rfl)) dX7_weight_16 ⟨Nat.le_of_ble_eq_true rfl, Nat.le_of_ble_eq_true rfl⟩) (fun H locs hW hS => ?_)
  refine lv_if_eq (tgt := 31) hx hb dX7_weight_19 (by decide) (fun c5 => ?_) (fun c5 => ?_)
  · have h := zip c5 h
    refine lv_iconst (v := 0) hx hb dX7_weight_31 (by decide) ?_
    exact z_iret hx hb hr hlocks hW hS (congrArg Prod.fst (Option.some.inj h)) (congrArg Prod.snd (Option.some.inj h)) dX7_weight_32
  · have h := zin c5 h
    refine lv_aload_n hx hb dX7_weight_22 rfl (lv_at hl 0 rfl) ?_
    obtain ⟨g6, h⟩ := zg_some h
    obtain ⟨b7, e8, h⟩ := zb_some h
    refine z_get (own := RX7) (C := RX7) (T := TX7) (N := 20) (ci := 7) hx hb hts hinX7 hown hK hL hW 5 (zK_of g6) rfl (by decide) (by decide) rfl (hts (.fieldLink RX7 22 "ArcLightModel" "weight" "[I") (by decide +kernel)) (v := .ref (ad b7)) (zhvR e8 rfl) dX7_weight_23 ?_
    refine lv_iload_n hx hb dX7_weight_26 rfl (lv_at hl 1 rfl) ?_
    obtain ⟨g9, h⟩ := zg_some h
    refine z_iald hx hb hK hL hW g9 dX7_weight_27 ?_
    refine lv_goto (tgt := 32) hx hb dX7_weight_28 (by decide) ?_
    exact z_iret hx hb hr hlocks hW hS (congrArg Prod.fst (Option.some.inj h)) (congrArg Prod.snd (Option.some.inj h)) dX7_weight_32
def f_X7_weight_15 (N : Nat) (K len : Nat → Nat) (x0 : Nat) (x1 : Int32) (s0 : Nat) (M : ZM) : Option (Int32 × ZM) :=
f_X7_weight_16 N K len  x0 x1 (0 : Int32) s0 M
set_option maxRecDepth 100000 in
set_option maxHeartbeats 4000000 in
theorem t_X7_weight_15 {p : Program} {l : Launch} {e : Env} {s : State} {m : MethodId} {args : Array Value} {below : List Frame} {meth : Method} {c : Code} {D : va_G} {cy : Nat → ClassId} {ad : Nat → Nat} {L : List Nat} {K len : Nat → Nat} (C0 : zCx p s m c meth args cX7_weight 2 wsX7_weight RX7 (some .int) D cy ad L K) (N : Nat) {x0 : Nat} {x1 : Int32} {s0 : Nat} {M : ZM} {r : Int32} {Mr : ZM} (h : f_X7_weight_15 N K len x0 x1 s0 M = some (r, Mr)) {H : Heap} {locs : List Loc} {ls : Array Slot} (hW : zWd D cy ad L K len M H) (hS : va_S (zA ad L s.heap.size) s.heap H locs) (hl : lv_has ls 2 [(0, .ref (ad x0)), (1, .int x1)]) : W p l e (headSpec wsX7_weight ({ frames := 1, cells := 0, slots := 0, locals := 21 } : Room)).room s m args below meth c H locs 0 0 (MQ below (zQi D cy ad L K len r Mr s.heap.size) args s 0 0 (zA ad L s.heap.size)) (F0 m 15 ls [.ref (ad s0)]) := by
  obtain ⟨hx, hb, hr, hml, hown, hts, hlocks, hK, hL, hE⟩ := id C0
  unfold f_X7_weight_15 at h
  refine lv_iconst (v := 0) hx hb dX7_weight_15 (by decide) ?_
  exact t_X7_weight_16 C0 N  h hW hS (lv_sub hl [0, 1] rfl)
def f_X7_weight_0 (N : Nat) (K len : Nat → Nat) (x0 : Nat) (x1 : Int32) (M : ZM) : Option (Int32 × ZM) :=
(if x1 < 0 then
f_X7_weight_15 N K len  x0 x1 x0 M
else
(if (28 : Int32) ≤ x1 then
f_X7_weight_15 N K len  x0 x1 x0 M
else
f_X7_weight_16 N K len  x0 x1 (1 : Int32) x0 M))
set_option maxRecDepth 100000 in
set_option maxHeartbeats 4000000 in
theorem t_X7_weight_0 {p : Program} {l : Launch} {e : Env} {s : State} {m : MethodId} {args : Array Value} {below : List Frame} {meth : Method} {c : Code} {D : va_G} {cy : Nat → ClassId} {ad : Nat → Nat} {L : List Nat} {K len : Nat → Nat} (C0 : zCx p s m c meth args cX7_weight 2 wsX7_weight RX7 (some .int) D cy ad L K) (N : Nat) {x0 : Nat} {x1 : Int32} {M : ZM} {r : Int32} {Mr : ZM} (h : f_X7_weight_0 N K len x0 x1 M = some (r, Mr)) {H : Heap} {locs : List Loc} {ls : Array Slot} (hW : zWd D cy ad L K len M H) (hS : va_S (zA ad L s.heap.size) s.heap H locs) (hl : lv_has ls 2 [(0, .ref (ad x0)), (1, .int x1)]) : W p l e (headSpec wsX7_weight ({ frames := 1, cells := 0, slots := 0, locals := 21 } : Room)).room s m args below meth c H locs 0 0 (MQ below (zQi D cy ad L K len r Mr s.heap.size) args s 0 0 (zA ad L s.heap.size)) (F0 m 0 ls []) := by
  obtain ⟨hx, hb, hr, hml, hown, hts, hlocks, hK, hL, hE⟩ := id C0
  unfold f_X7_weight_0 at h
  refine lv_aload_n hx hb dX7_weight_0 rfl (lv_at hl 0 rfl) ?_
  refine lv_iload_n hx hb dX7_weight_1 rfl (lv_at hl 1 rfl) ?_
  refine lv_if_lt (tgt := 15) hx hb dX7_weight_2 (by decide) (fun c1 => ?_) (fun c1 => ?_)
  · have h := zip c1 h
    exact t_X7_weight_15 C0 N  h hW hS (lv_sub hl [0, 1] rfl)
  · have h := zin c1 h
    refine lv_iload_n hx hb dX7_weight_5 rfl (lv_at hl 1 rfl) ?_
    refine lv_bipush (v := 28) hx hb dX7_weight_6 (by decide) ?_
    refine lv_icmp_ge (tgt := 15) hx hb dX7_weight_8 (by decide) (fun c2 => ?_) (fun c2 => ?_)
    · have h := zip c2 h
      exact t_X7_weight_15 C0 N  h hW hS (lv_sub hl [0, 1] rfl)
    · have h := zin c2 h
      refine lv_iconst (v := 1) hx hb dX7_weight_11 (by decide) ?_
      refine lv_goto (tgt := 16) hx hb dX7_weight_12 (by decide) ?_
      exact t_X7_weight_16 C0 N  h hW hS (lv_sub hl [0, 1] rfl)
def f_X7_weight (N : Nat) (K len : Nat → Nat) (a0 : Nat) (a1 : Int32) (M : ZM) : Option (Int32 × ZM) := f_X7_weight_0 N K len a0 a1 M
set_option maxRecDepth 100000 in
set_option maxHeartbeats 4000000 in
theorem m_X7_weight (l : Launch) {D : va_G} {cy : Nat → ClassId} {ad : Nat → Nat} {L : List Nat} {K len : Nat → Nat} (hL : zSh ad L K) (N : Nat) {a0 : Nat} {a1 : Int32} {M : ZM} {r : Int32} {Mr : ZM} (h : f_X7_weight N K len a0 a1 M = some (r, Mr)) (sz : Nat) : Met l yX7_weight wsX7_weight ({ frames := 1, cells := 0, slots := 0, locals := 21 } : Room) (zPre D cy ad L K len sz [.ref (ad a0), .int a1] M) (zQi D cy ad L K len r Mr sz) 0 0 (zA ad L sz) :=
  z_entry (Qf := fun sz => zQi D cy ad L K len r Mr sz) (av := [.ref (ad a0), .int a1]) (by decide) rfl rfl hL (Nat.le_of_ble_eq_true rfl) (fun p e s m args below meth c C0 H locs ls hW hS hl => t_X7_weight_0 C0 N h hW hS (lv_sub hl [0, 1] rfl))
def f_X7_byKind_20 (N : Nat) (K len : Nat → Nat) (x0 : Nat) (x1 : Int32) (x3 : Int32) (s0 : Int32) (s1 : Int32) (M : ZM) : Option (Int32) :=
zg (K x0 == 8) (
(zR M x0 2).bind fun b2 => (
zg (zok K len b2 11 (((7 : Int32) * x1) + x3)) (
some ((s1 * s0) + (zI M b2 (((7 : Int32) * x1) + x3).toNatClampNeg)))))
set_option maxRecDepth 100000 in
set_option maxHeartbeats 4000000 in
theorem t_X7_byKind_20 {p : Program} {l : Launch} {e : Env} {s : State} {m : MethodId} {args : Array Value} {below : List Frame} {meth : Method} {c : Code} {D : va_G} {cy : Nat → ClassId} {ad : Nat → Nat} {L : List Nat} {K len : Nat → Nat} (C0 : zCx p s m c meth args cX7_byKind 4 wsX7_byKind RX7 (some .int) D cy ad L K) (N : Nat) {x0 : Nat} {x1 : Int32} {x3 : Int32} {s0 : Int32} {s1 : Int32} {M : ZM} {r : Int32} (h : f_X7_byKind_20 N K len x0 x1 x3 s0 s1 M = some r) {H : Heap} {locs : List Loc} {ls : Array Slot} (hW : zWd D cy ad L K len M H) (hS : va_S (zA ad L s.heap.size) s.heap H locs) (hl : lv_has ls 4 [(0, .ref (ad x0)), (1, .int x1), (3, .int x3)]) : W p l e (headSpec wsX7_byKind ({ frames := 0, cells := 0, slots := 0, locals := 0 } : Room)).room s m args below meth c H locs 0 0 (MQ below (zQi D cy ad L K len r M s.heap.size) args s 0 0 (zA ad L s.heap.size)) (F0 m 20 ls [.int s0, .int s1]) := by
  obtain ⟨hx, hb, hr, hml, hown, hts, hlocks, hK, hL, hE⟩ := id C0
  have hinX7 : ∀ w ∈ wsX70, w ∈ wsX7_byKind := by decide +kernel
  unfold f_X7_byKind_20 at h
  refine lv_imul hx hb dX7_byKind_20 ?_
  refine lv_aload_n hx hb dX7_byKind_21 rfl (lv_at hl 0 rfl) ?_
  obtain ⟨g1, h⟩ := zg_some h
  obtain ⟨b2, e3, h⟩ := zb_some h
  refine z_get (own := RX7) (C := RX7) (T := TX7) (N := 20) (ci := 7) hx hb hts hinX7 hown hK hL hW 2 (zK_of g1) rfl (by decide) (by decide) rfl (hts (.fieldLink RX7 13 "ArcLightModel" "kind" "[I") (by decide +kernel)) (v := .ref (ad b2)) (zhvR e3 rfl) dX7_byKind_22 ?_
  refine lv_bipush (v := 7) hx hb dX7_byKind_25 (by decide) ?_
  refine lv_iload_n hx hb dX7_byKind_27 rfl (lv_at hl 1 rfl) ?_
  refine lv_imul hx hb dX7_byKind_28 ?_
  refine lv_iload_n hx hb dX7_byKind_29 rfl (lv_at hl 2 rfl) ?_
  refine lv_iadd hx hb dX7_byKind_30 ?_
  obtain ⟨g4, h⟩ := zg_some h
  refine z_iald hx hb hK hL hW g4 dX7_byKind_31 ?_
  refine lv_iadd hx hb dX7_byKind_32 ?_
  exact z_iret hx hb hr hlocks hW hS (Option.some.inj h) rfl dX7_byKind_33
def f_X7_byKind_0 (N : Nat) (K len : Nat → Nat) (x0 : Nat) (x1 : Int32) (x2 : Int32) (x3 : Int32) (M : ZM) : Option (Int32) :=
(if x2 = 0 then
f_X7_byKind_20 N K len  x0 x1 x3 (4 : Int32) (4 : Int32) M
else
zg (K x0 == 8) (
(zR M x0 2).bind fun b3 => (
zg (zok K len b3 11 (((7 : Int32) * x1) + x2)) (
f_X7_byKind_20 N K len  x0 x1 x3 (zI M b3 (((7 : Int32) * x1) + x2).toNatClampNeg) (4 : Int32) M))))
set_option maxRecDepth 100000 in
set_option maxHeartbeats 4000000 in
theorem t_X7_byKind_0 {p : Program} {l : Launch} {e : Env} {s : State} {m : MethodId} {args : Array Value} {below : List Frame} {meth : Method} {c : Code} {D : va_G} {cy : Nat → ClassId} {ad : Nat → Nat} {L : List Nat} {K len : Nat → Nat} (C0 : zCx p s m c meth args cX7_byKind 4 wsX7_byKind RX7 (some .int) D cy ad L K) (N : Nat) {x0 : Nat} {x1 : Int32} {x2 : Int32} {x3 : Int32} {M : ZM} {r : Int32} (h : f_X7_byKind_0 N K len x0 x1 x2 x3 M = some r) {H : Heap} {locs : List Loc} {ls : Array Slot} (hW : zWd D cy ad L K len M H) (hS : va_S (zA ad L s.heap.size) s.heap H locs) (hl : lv_has ls 4 [(0, .ref (ad x0)), (1, .int x1), (2, .int x2), (3, .int x3)]) : W p l e (headSpec wsX7_byKind ({ frames := 0, cells := 0, slots := 0, locals := 0 } : Room)).room s m args below meth c H locs 0 0 (MQ below (zQi D cy ad L K len r M s.heap.size) args s 0 0 (zA ad L s.heap.size)) (F0 m 0 ls []) := by
  obtain ⟨hx, hb, hr, hml, hown, hts, hlocks, hK, hL, hE⟩ := id C0
  have hinX7 : ∀ w ∈ wsX70, w ∈ wsX7_byKind := by decide +kernel
  unfold f_X7_byKind_0 at h
  refine lv_iconst (v := 4) hx hb dX7_byKind_0 (by decide) ?_
  refine lv_iload_n hx hb dX7_byKind_1 rfl (lv_at hl 2 rfl) ?_
  refine lv_if_ne (tgt := 9) hx hb dX7_byKind_2 (by decide) (fun c1 => ?_) (fun c1 => ?_)
  · have h := zin c1 h
    refine lv_aload_n hx hb dX7_byKind_9 rfl (lv_at hl 0 rfl) ?_
    obtain ⟨g2, h⟩ := zg_some h
    obtain ⟨b3, e4, h⟩ := zb_some h
    refine z_get (own := RX7) (C := RX7) (T := TX7) (N := 20) (ci := 7) hx hb hts hinX7 hown hK hL hW 2 (zK_of g2) rfl (by decide) (by decide) rfl (hts (.fieldLink RX7 13 "ArcLightModel" "kind" "[I") (by decide +kernel)) (v := .ref (ad b3)) (zhvR e4 rfl) dX7_byKind_10 ?_
    refine lv_bipush (v := 7) hx hb dX7_byKind_13 (by decide) ?_
    refine lv_iload_n hx hb dX7_byKind_15 rfl (lv_at hl 1 rfl) ?_
    refine lv_imul hx hb dX7_byKind_16 ?_
    refine lv_iload_n hx hb dX7_byKind_17 rfl (lv_at hl 2 rfl) ?_
    refine lv_iadd hx hb dX7_byKind_18 ?_
    obtain ⟨g5, h⟩ := zg_some h
    refine z_iald hx hb hK hL hW g5 dX7_byKind_19 ?_
    exact t_X7_byKind_20 C0 N  h hW hS (lv_sub hl [0, 1, 3] rfl)
  · have h := zip c1 h
    refine lv_iconst (v := 4) hx hb dX7_byKind_5 (by decide) ?_
    refine lv_goto (tgt := 20) hx hb dX7_byKind_6 (by decide) ?_
    exact t_X7_byKind_20 C0 N  h hW hS (lv_sub hl [0, 1, 3] rfl)
def f_X7_byKind (N : Nat) (K len : Nat → Nat) (a0 : Nat) (a1 : Int32) (a2 : Int32) (a3 : Int32) (M : ZM) : Option (Int32) := f_X7_byKind_0 N K len a0 a1 a2 a3 M
set_option maxRecDepth 100000 in
set_option maxHeartbeats 4000000 in
theorem m_X7_byKind (l : Launch) {D : va_G} {cy : Nat → ClassId} {ad : Nat → Nat} {L : List Nat} {K len : Nat → Nat} (hL : zSh ad L K) (N : Nat) {a0 : Nat} {a1 : Int32} {a2 : Int32} {a3 : Int32} {M : ZM} {r : Int32} (h : f_X7_byKind N K len a0 a1 a2 a3 M = some r) (sz : Nat) : Met l yX7_byKind wsX7_byKind ({ frames := 0, cells := 0, slots := 0, locals := 0 } : Room) (zPre D cy ad L K len sz [.ref (ad a0), .int a1, .int a2, .int a3] M) (zQi D cy ad L K len r M sz) 0 0 (zA ad L sz) :=
  z_entry (Qf := fun sz => zQi D cy ad L K len r M sz) (av := [.ref (ad a0), .int a1, .int a2, .int a3]) (by decide) rfl rfl hL (Nat.le_of_ble_eq_true rfl) (fun p e s m args below meth c C0 H locs ls hW hS hl => t_X7_byKind_0 C0 N h hW hS (lv_sub hl [0, 1, 2, 3] rfl))
def f_X7_byDistance_28 (N : Nat) (x0 : Int32) (x1 : Int32) (s0 : Int32) (s1 : Int32) (s2 : Int32) : Option (Int32) :=
(if x0 ≤ x1 then
some ((s2 + (s1 * s0)) + (0 : Int32))
else
some ((s2 + (s1 * s0)) + (1 : Int32)))
set_option maxRecDepth 100000 in
set_option maxHeartbeats 4000000 in
theorem t_X7_byDistance_28 {p : Program} {l : Launch} {e : Env} {s : State} {m : MethodId} {args : Array Value} {below : List Frame} {meth : Method} {c : Code} {D : va_G} {cy : Nat → ClassId} {ad : Nat → Nat} {L : List Nat} {K len : Nat → Nat} (C0 : zCx p s m c meth args cX7_byDistance 3 wsX7_byDistance RX7 (some .int) D cy ad L K) (N : Nat) {x0 : Int32} {x1 : Int32} {s0 : Int32} {s1 : Int32} {s2 : Int32} {M : ZM} {r : Int32} (h : f_X7_byDistance_28 N x0 x1 s0 s1 s2 = some r) {H : Heap} {locs : List Loc} {ls : Array Slot} (hW : zWd D cy ad L K len M H) (hS : va_S (zA ad L s.heap.size) s.heap H locs) (hl : lv_has ls 3 [(0, .int x0), (1, .int x1)]) : W p l e (headSpec wsX7_byDistance ({ frames := 0, cells := 0, slots := 0, locals := 0 } : Room)).room s m args below meth c H locs 0 0 (MQ below (zQi D cy ad L K len r M s.heap.size) args s 0 0 (zA ad L s.heap.size)) (F0 m 28 ls [.int s0, .int s1, .int s2]) := by
  obtain ⟨hx, hb, hr, hml, hown, hts, hlocks, hK, hL, hE⟩ := id C0
  unfold f_X7_byDistance_28 at h
  refine lv_imul hx hb dX7_byDistance_28 ?_
  refine lv_iadd hx hb dX7_byDistance_29 ?_
  refine lv_iload_n hx hb dX7_byDistance_30 rfl (lv_at hl 0 rfl) ?_
  refine lv_iload_n hx hb dX7_byDistance_31 rfl (lv_at hl 1 rfl) ?_
  refine lv_icmp_le (tgt := 39) hx hb dX7_byDistance_32 (by decide) (fun c1 => ?_) (fun c1 => ?_)
  · have h := zip c1 h
    refine lv_iconst (v := 0) hx hb dX7_byDistance_39 (by decide) ?_
    refine lv_iadd hx hb dX7_byDistance_40 ?_
    exact z_iret hx hb hr hlocks hW hS (Option.some.inj h) rfl dX7_byDistance_41
  · have h := zin c1 h
    refine lv_iconst (v := 1) hx hb dX7_byDistance_35 (by decide) ?_
    refine lv_goto (tgt := 40) hx hb dX7_byDistance_36 (by decide) ?_
    refine lv_iadd hx hb dX7_byDistance_40 ?_
    exact z_iret hx hb hr hlocks hW hS (Option.some.inj h) rfl dX7_byDistance_41
def f_X7_byDistance_14 (N : Nat) (x0 : Int32) (x1 : Int32) (s0 : Int32) : Option (Int32) :=
(if (4 : Int32) ≤ s0 then
f_X7_byDistance_28 N  x0 x1 (4 : Int32) (2 : Int32) (18 : Int32)
else
f_X7_byDistance_28 N  x0 x1 s0 (2 : Int32) (18 : Int32))
set_option maxRecDepth 100000 in
set_option maxHeartbeats 4000000 in
theorem t_X7_byDistance_14 {p : Program} {l : Launch} {e : Env} {s : State} {m : MethodId} {args : Array Value} {below : List Frame} {meth : Method} {c : Code} {D : va_G} {cy : Nat → ClassId} {ad : Nat → Nat} {L : List Nat} {K len : Nat → Nat} (C0 : zCx p s m c meth args cX7_byDistance 3 wsX7_byDistance RX7 (some .int) D cy ad L K) (N : Nat) {x0 : Int32} {x1 : Int32} {s0 : Int32} {M : ZM} {r : Int32} (h : f_X7_byDistance_14 N x0 x1 s0 = some r) {H : Heap} {locs : List Loc} {ls : Array Slot} (hW : zWd D cy ad L K len M H) (hS : va_S (zA ad L s.heap.size) s.heap H locs) (hl : lv_has ls 3 [(0, .int x0), (1, .int x1)]) : W p l e (headSpec wsX7_byDistance ({ frames := 0, cells := 0, slots := 0, locals := 0 } : Room)).room s m args below meth c H locs 0 0 (MQ below (zQi D cy ad L K len r M s.heap.size) args s 0 0 (zA ad L s.heap.size)) (F0 m 14 ls [.int s0]) := by
  obtain ⟨hx, hb, hr, hml, hown, hts, hlocks, hK, hL, hE⟩ := id C0
  unfold f_X7_byDistance_14 at h
  refine lv_istore_n (lv' := [(2, .int s0), (0, .int x0), (1, .int x1)]) hx hb dX7_byDistance_14 rfl hl (by decide) rfl (fun ls hl => ?_)
  refine lv_bipush (v := 18) hx hb dX7_byDistance_15 (by decide) ?_
  refine lv_iconst (v := 2) hx hb dX7_byDistance_17 (by decide) ?_
  refine lv_iload_n hx hb dX7_byDistance_18 rfl (lv_at hl 0 rfl) ?_
  refine lv_iconst (v := 4) hx hb dX7_byDistance_19 (by decide) ?_
  refine lv_icmp_ge (tgt := 27) hx hb dX7_byDistance_20 (by decide) (fun c1 => ?_) (fun c1 => ?_)
  · have h := zip c1 h
    refine lv_iconst (v := 4) hx hb dX7_byDistance_27 (by decide) ?_
    exact t_X7_byDistance_28 C0 N  h hW hS (lv_sub hl [1, 2] rfl)
  · have h := zin c1 h
    refine lv_iload_n hx hb dX7_byDistance_23 rfl (lv_at hl 0 rfl) ?_
    refine lv_goto (tgt := 28) hx hb dX7_byDistance_24 (by decide) ?_
    exact t_X7_byDistance_28 C0 N  h hW hS (lv_sub hl [1, 2] rfl)
def f_X7_byDistance_0 (N : Nat) (x0 : Int32) (x1 : Int32) : Option (Int32) :=
(if x0 ≤ x1 then
f_X7_byDistance_14 N  x0 x1 (x1 - x0)
else
f_X7_byDistance_14 N  x0 x1 (x0 - x1))
set_option maxRecDepth 100000 in
set_option maxHeartbeats 4000000 in
theorem t_X7_byDistance_0 {p : Program} {l : Launch} {e : Env} {s : State} {m : MethodId} {args : Array Value} {below : List Frame} {meth : Method} {c : Code} {D : va_G} {cy : Nat → ClassId} {ad : Nat → Nat} {L : List Nat} {K len : Nat → Nat} (C0 : zCx p s m c meth args cX7_byDistance 3 wsX7_byDistance RX7 (some .int) D cy ad L K) (N : Nat) {x0 : Int32} {x1 : Int32} {M : ZM} {r : Int32} (h : f_X7_byDistance_0 N x0 x1 = some r) {H : Heap} {locs : List Loc} {ls : Array Slot} (hW : zWd D cy ad L K len M H) (hS : va_S (zA ad L s.heap.size) s.heap H locs) (hl : lv_has ls 3 [(0, .int x0), (1, .int x1)]) : W p l e (headSpec wsX7_byDistance ({ frames := 0, cells := 0, slots := 0, locals := 0 } : Room)).room s m args below meth c H locs 0 0 (MQ below (zQi D cy ad L K len r M s.heap.size) args s 0 0 (zA ad L s.heap.size)) (F0 m 0 ls []) := by
  obtain ⟨hx, hb, hr, hml, hown, hts, hlocks, hK, hL, hE⟩ := id C0
  unfold f_X7_byDistance_0 at h
  refine lv_iload_n hx hb dX7_byDistance_0 rfl (lv_at hl 0 rfl) ?_
  refine lv_iload_n hx hb dX7_byDistance_1 rfl (lv_at hl 1 rfl) ?_
  refine lv_icmp_le (tgt := 11) hx hb dX7_byDistance_2 (by decide) (fun c1 => ?_) (fun c1 => ?_)
  · have h := zip c1 h
    refine lv_iload_n hx hb dX7_byDistance_11 rfl (lv_at hl 1 rfl) ?_
    refine lv_iload_n hx hb dX7_byDistance_12 rfl (lv_at hl 0 rfl) ?_
    refine lv_isub hx hb dX7_byDistance_13 ?_
    exact t_X7_byDistance_14 C0 N  h hW hS (lv_sub hl [0, 1] rfl)
  · have h := zin c1 h
    refine lv_iload_n hx hb dX7_byDistance_5 rfl (lv_at hl 0 rfl) ?_
    refine lv_iload_n hx hb dX7_byDistance_6 rfl (lv_at hl 1 rfl) ?_
    refine lv_isub hx hb dX7_byDistance_7 ?_
    refine lv_goto (tgt := 14) hx hb dX7_byDistance_8 (by decide) ?_
    exact t_X7_byDistance_14 C0 N  h hW hS (lv_sub hl [0, 1] rfl)
def f_X7_byDistance (N : Nat) (a0 : Int32) (a1 : Int32) : Option (Int32) := f_X7_byDistance_0 N a0 a1
set_option maxRecDepth 100000 in
set_option maxHeartbeats 4000000 in
theorem m_X7_byDistance (l : Launch) {D : va_G} {cy : Nat → ClassId} {ad : Nat → Nat} {L : List Nat} {K len : Nat → Nat} (hL : zSh ad L K) (N : Nat) {a0 : Int32} {a1 : Int32} {M : ZM} {r : Int32} (h : f_X7_byDistance N a0 a1 = some r) (sz : Nat) : Met l yX7_byDistance wsX7_byDistance ({ frames := 0, cells := 0, slots := 0, locals := 0 } : Room) (zPre D cy ad L K len sz [.int a0, .int a1] M) (zQi D cy ad L K len r M sz) 0 0 (zA ad L sz) :=
  z_entry (Qf := fun sz => zQi D cy ad L K len r M sz) (av := [.int a0, .int a1]) (by decide) rfl rfl hL (Nat.le_of_ble_eq_true rfl) (fun p e s m args below meth c C0 H locs ls hW hS hl => t_X7_byDistance_0 C0 N h hW hS (lv_sub hl [0, 1] rfl))
def f_X7_scoreOf_0 (N : Nat) (K len : Nat → Nat) (x0 : Nat) (x1 : Int32) (x2 : Int32) (x3 : Int32) (M : ZM) : Option (Int32) :=
zg (K x0 == 8) (
(zR M x0 5).bind fun b2 => (
(f_X7_byKind N K len x0 x1 x2 x3 M).bind fun q4 => (
zg (zok K len b2 11 q4) (
(f_X7_byDistance N x2 x3).bind fun q7 => (
zg (zok K len b2 11 q7) (
some ((zI M b2 q4.toNatClampNeg) + (zI M b2 q7.toNatClampNeg))))))))
set_option maxRecDepth 100000 in
set_option maxHeartbeats 4000000 in
theorem t_X7_scoreOf_0 {p : Program} {l : Launch} {e : Env} {s : State} {m : MethodId} {args : Array Value} {below : List Frame} {meth : Method} {c : Code} {D : va_G} {cy : Nat → ClassId} {ad : Nat → Nat} {L : List Nat} {K len : Nat → Nat} (C0 : zCx p s m c meth args cX7_scoreOf 4 wsX7_scoreOf RX7 (some .int) D cy ad L K) (N : Nat) {x0 : Nat} {x1 : Int32} {x2 : Int32} {x3 : Int32} {M : ZM} {r : Int32} (h : f_X7_scoreOf_0 N K len x0 x1 x2 x3 M = some r) {H : Heap} {locs : List Loc} {ls : Array Slot} (hW : zWd D cy ad L K len M H) (hS : va_S (zA ad L s.heap.size) s.heap H locs) (hl : lv_has ls 4 [(0, .ref (ad x0)), (1, .int x1), (2, .int x2), (3, .int x3)]) : W p l e (headSpec wsX7_scoreOf ({ frames := 1, cells := 0, slots := 0, locals := 23 } : Room)).room s m args below meth c H locs 0 0 (MQ below (zQi D cy ad L K len r M s.heap.size) args s 0 0 (zA ad L s.heap.size)) (F0 m 0 ls []) := by
  obtain ⟨hx, hb, hr, hml, hown, hts, hlocks, hK, hL, hE⟩ := id C0
  have hinX7 : ∀ w ∈ wsX70, w ∈ wsX7_scoreOf := by decide +kernel
  unfold f_X7_scoreOf_0 at h
  refine lv_aload_n hx hb dX7_scoreOf_0 rfl (lv_at hl 0 rfl) ?_
  obtain ⟨g1, h⟩ := zg_some h
  obtain ⟨b2, e3, h⟩ := zb_some h
  refine z_get (own := RX7) (C := RX7) (T := TX7) (N := 20) (ci := 7) hx hb hts hinX7 hown hK hL hW 5 (zK_of g1) rfl (by decide) (by decide) rfl (hts (.fieldLink RX7 22 "ArcLightModel" "weight" "[I") (by decide +kernel)) (v := .ref (ad b2)) (zhvR e3 rfl) dX7_scoreOf_1 ?_
  refine lv_aload_n hx hb dX7_scoreOf_4 rfl (lv_at hl 0 rfl) ?_
  refine lv_iload_n hx hb dX7_scoreOf_5 rfl (lv_at hl 1 rfl) ?_
  refine lv_iload_n hx hb dX7_scoreOf_6 rfl (lv_at hl 2 rfl) ?_
  refine lv_iload_n hx hb dX7_scoreOf_7 rfl (lv_at hl 3 rfl) ?_
  obtain ⟨q4, e5, h⟩ := zb_some h
  refine z_calli hS (va_runV (As := [.int x1, .int x2, .int x3]) (rest := [.ref (ad b2)]) ⟨hx, hb, hml, hown, hts⟩ (m_X7_byKind l hL N e5 H.size) (cwV 3 hts gX7_scoreOf_X7_byKind rfl rfl rfl (by decide +kernel) ⟨Nat.le_of_ble_eq_true rfl, Nat.le_of_ble_eq_true rfl⟩) (z_preV (q := (RX7, TX7, 20)) hK hL hE hW hS (zK_of g1) (by decide) rfl [.int x1, .int x2, .int x3]) rfl rfl hl.1 rfl (lv_room (Nat.le_of_ble_eq_true rfl)) dX7_scoreOf_8 ⟨Nat.le_of_ble_eq_true rfl, Nat.le_of_ble_eq_true rfl⟩) (fun H locs hW hS => ?_)
  obtain ⟨g6, h⟩ := zg_some h
  refine z_iald hx hb hK hL hW g6 dX7_scoreOf_11 ?_
  refine lv_aload_n hx hb dX7_scoreOf_12 rfl (lv_at hl 0 rfl) ?_
  refine z_get (own := RX7) (C := RX7) (T := TX7) (N := 20) (ci := 7) hx hb hts hinX7 hown hK hL hW 5 (zK_of g1) rfl (by decide) (by decide) rfl (hts (.fieldLink RX7 22 "ArcLightModel" "weight" "[I") (by decide +kernel)) (v := .ref (ad b2)) (zhvR e3 rfl) dX7_scoreOf_13 ?_
  refine lv_iload_n hx hb dX7_scoreOf_16 rfl (lv_at hl 2 rfl) ?_
  refine lv_iload_n hx hb dX7_scoreOf_17 rfl (lv_at hl 3 rfl) ?_
  obtain ⟨q7, e8, h⟩ := zb_some h
  refine z_calli hS (va_runS (As := [.int x2, .int x3]) (rest := [.ref (ad b2), .int (zI M b2 q4.toNatClampNeg)]) ⟨hx, hb, hml, hown, hts⟩ (m_X7_byDistance l (M := M) hL N e8 H.size) (va_cwS 2 hts gX7_scoreOf_X7_byDistance rfl rfl rfl (by decide +kernel) ⟨Nat.le_of_ble_eq_true rfl, Nat.le_of_ble_eq_true rfl⟩) (z_preS hK hE hW hS [.int x2, .int x3]) rfl rfl hl.1 rfl (lv_room (Nat.le_of_ble_eq_true rfl)) dX7_scoreOf_18 ⟨Nat.le_of_ble_eq_true rfl, Nat.le_of_ble_eq_true rfl⟩) (fun H locs hW hS => ?_)
  obtain ⟨g9, h⟩ := zg_some h
  refine z_iald hx hb hK hL hW g9 dX7_scoreOf_21 ?_
  refine lv_iadd hx hb dX7_scoreOf_22 ?_
  exact z_iret hx hb hr hlocks hW hS (Option.some.inj h) rfl dX7_scoreOf_23
def f_X7_scoreOf (N : Nat) (K len : Nat → Nat) (a0 : Nat) (a1 : Int32) (a2 : Int32) (a3 : Int32) (M : ZM) : Option (Int32) := f_X7_scoreOf_0 N K len a0 a1 a2 a3 M
set_option maxRecDepth 100000 in
set_option maxHeartbeats 4000000 in
theorem m_X7_scoreOf (l : Launch) {D : va_G} {cy : Nat → ClassId} {ad : Nat → Nat} {L : List Nat} {K len : Nat → Nat} (hL : zSh ad L K) (N : Nat) {a0 : Nat} {a1 : Int32} {a2 : Int32} {a3 : Int32} {M : ZM} {r : Int32} (h : f_X7_scoreOf N K len a0 a1 a2 a3 M = some r) (sz : Nat) : Met l yX7_scoreOf wsX7_scoreOf ({ frames := 1, cells := 0, slots := 0, locals := 23 } : Room) (zPre D cy ad L K len sz [.ref (ad a0), .int a1, .int a2, .int a3] M) (zQi D cy ad L K len r M sz) 0 0 (zA ad L sz) :=
  z_entry (Qf := fun sz => zQi D cy ad L K len r M sz) (av := [.ref (ad a0), .int a1, .int a2, .int a3]) (by decide) rfl rfl hL (Nat.le_of_ble_eq_true rfl) (fun p e s m args below meth c C0 H locs ls hW hS hl => t_X7_scoreOf_0 C0 N h hW hS (lv_sub hl [0, 1, 2, 3] rfl))
def f_X7_asksArc_33 (N : Nat) (K len : Nat → Nat) (x0 : Nat) (s0 : Int32) (s1 : Nat) (M : ZM) : Option (Int32 × ZM) :=
zg (K s1 == 8) (
zl (zsI M s1 19 s0) fun M2 => (
zg (K x0 == 8) (
(if (zI M2 x0 19) = 0 then
some ((1 : Int32), M2)
else
some ((0 : Int32), M2)))))
set_option maxRecDepth 100000 in
set_option maxHeartbeats 4000000 in
theorem t_X7_asksArc_33 {p : Program} {l : Launch} {e : Env} {s : State} {m : MethodId} {args : Array Value} {below : List Frame} {meth : Method} {c : Code} {D : va_G} {cy : Nat → ClassId} {ad : Nat → Nat} {L : List Nat} {K len : Nat → Nat} (C0 : zCx p s m c meth args cX7_asksArc 4 wsX7_asksArc RX7 (some .boolean) D cy ad L K) (N : Nat) {x0 : Nat} {s0 : Int32} {s1 : Nat} {M : ZM} {r : Int32} {Mr : ZM} (h : f_X7_asksArc_33 N K len x0 s0 s1 M = some (r, Mr)) {H : Heap} {locs : List Loc} {ls : Array Slot} (hW : zWd D cy ad L K len M H) (hS : va_S (zA ad L s.heap.size) s.heap H locs) (hl : lv_has ls 4 [(0, .ref (ad x0))]) : W p l e (headSpec wsX7_asksArc ({ frames := 2, cells := 0, slots := 0, locals := 43 } : Room)).room s m args below meth c H locs 0 0 (MQ below (zQi D cy ad L K len r Mr s.heap.size) args s 0 0 (zA ad L s.heap.size)) (F0 m 33 ls [.int s0, .ref (ad s1)]) := by
  obtain ⟨hx, hb, hr, hml, hown, hts, hlocks, hK, hL, hE⟩ := id C0
  have hinX7 : ∀ w ∈ wsX70, w ∈ wsX7_asksArc := by decide +kernel
  unfold f_X7_asksArc_33 at h
  obtain ⟨g1, h⟩ := zg_some h
  refine z_put (own := RX7) (C := RX7) (T := TX7) (N := 20) (ci := 7) (v := .int s0) (M' := zsI M s1 19 s0) hx hb hts hinX7 tyX7 tyX7_ok nmX7 hown hK hL hW hS 19 (zK_of g1) rfl (by decide) (by decide) rfl (hts (.fieldLink RX7 55 "ArcLightModel" "thrown" "I") (by decide +kernel)) rfl (ty := .int) (by decide +kernel) rfl rfl (Nat.le_of_ble_eq_true rfl) dX7_asksArc_33 (zM_I (zK_of g1) (by decide) rfl) (fun H locs hW hS => ?_)
  obtain ⟨M2, eM3, h⟩ := zl_some h
  rw [← eM3] at hW
  refine lv_aload_n hx hb dX7_asksArc_36 rfl (lv_at hl 0 rfl) ?_
  obtain ⟨g4, h⟩ := zg_some h
  refine z_get (own := RX7) (C := RX7) (T := TX7) (N := 20) (ci := 7) hx hb hts hinX7 hown hK hL hW 19 (zK_of g4) rfl (by decide) (by decide) rfl (hts (.fieldLink RX7 55 "ArcLightModel" "thrown" "I") (by decide +kernel)) (v := .int (zI M2 x0 19)) rfl dX7_asksArc_37 ?_
  refine lv_if_ne (tgt := 47) hx hb dX7_asksArc_40 (by decide) (fun c5 => ?_) (fun c5 => ?_)
  · have h := zin c5 h
    refine lv_iconst (v := 0) hx hb dX7_asksArc_47 (by decide) ?_
    exact z_zret hx hb hr hlocks hW hS (by decide) (congrArg Prod.fst (Option.some.inj h)) (congrArg Prod.snd (Option.some.inj h)) dX7_asksArc_48
  · have h := zip c5 h
    refine lv_iconst (v := 1) hx hb dX7_asksArc_43 (by decide) ?_
    refine lv_goto (tgt := 48) hx hb dX7_asksArc_44 (by decide) ?_
    exact z_zret hx hb hr hlocks hW hS (by decide) (congrArg Prod.fst (Option.some.inj h)) (congrArg Prod.snd (Option.some.inj h)) dX7_asksArc_48
def f_X7_asksArc_19 (N : Nat) (K len : Nat → Nat) (x0 : Nat) (s0 : Nat) (M : ZM) : Option (Int32 × ZM) :=
f_X7_asksArc_33 N K len  x0 (1 : Int32) s0 M
set_option maxRecDepth 100000 in
set_option maxHeartbeats 4000000 in
theorem t_X7_asksArc_19 {p : Program} {l : Launch} {e : Env} {s : State} {m : MethodId} {args : Array Value} {below : List Frame} {meth : Method} {c : Code} {D : va_G} {cy : Nat → ClassId} {ad : Nat → Nat} {L : List Nat} {K len : Nat → Nat} (C0 : zCx p s m c meth args cX7_asksArc 4 wsX7_asksArc RX7 (some .boolean) D cy ad L K) (N : Nat) {x0 : Nat} {s0 : Nat} {M : ZM} {r : Int32} {Mr : ZM} (h : f_X7_asksArc_19 N K len x0 s0 M = some (r, Mr)) {H : Heap} {locs : List Loc} {ls : Array Slot} (hW : zWd D cy ad L K len M H) (hS : va_S (zA ad L s.heap.size) s.heap H locs) (hl : lv_has ls 4 [(0, .ref (ad x0))]) : W p l e (headSpec wsX7_asksArc ({ frames := 2, cells := 0, slots := 0, locals := 43 } : Room)).room s m args below meth c H locs 0 0 (MQ below (zQi D cy ad L K len r Mr s.heap.size) args s 0 0 (zA ad L s.heap.size)) (F0 m 19 ls [.ref (ad s0)]) := by
  obtain ⟨hx, hb, hr, hml, hown, hts, hlocks, hK, hL, hE⟩ := id C0
  unfold f_X7_asksArc_19 at h
  refine lv_iconst (v := 1) hx hb dX7_asksArc_19 (by decide) ?_
  refine lv_goto (tgt := 33) hx hb dX7_asksArc_20 (by decide) ?_
  exact t_X7_asksArc_33 C0 N  h hW hS (lv_sub hl [0] rfl)
def f_X7_asksArc_0 (N : Nat) (K len : Nat → Nat) (x0 : Nat) (x1 : Int32) (x2 : Int32) (x3 : Int32) (M : ZM) : Option (Int32 × ZM) :=
(f_X7_isPlace N K len x0 x1 x2 M).bind fun q1 => (
zg (K x0 == 8) (
(if q1 = 0 then
f_X7_asksArc_19 N K len  x0 x0 M
else
(f_X7_isWord N K len x0 x1 x3 M).bind fun q5 => (
(if q5 = 0 then
f_X7_asksArc_19 N K len  x0 x0 M
else
(if x2 = x3 then
f_X7_asksArc_33 N K len  x0 (2 : Int32) x0 M
else
f_X7_asksArc_33 N K len  x0 (0 : Int32) x0 M))))))
set_option maxRecDepth 100000 in
set_option maxHeartbeats 4000000 in
theorem t_X7_asksArc_0 {p : Program} {l : Launch} {e : Env} {s : State} {m : MethodId} {args : Array Value} {below : List Frame} {meth : Method} {c : Code} {D : va_G} {cy : Nat → ClassId} {ad : Nat → Nat} {L : List Nat} {K len : Nat → Nat} (C0 : zCx p s m c meth args cX7_asksArc 4 wsX7_asksArc RX7 (some .boolean) D cy ad L K) (N : Nat) {x0 : Nat} {x1 : Int32} {x2 : Int32} {x3 : Int32} {M : ZM} {r : Int32} {Mr : ZM} (h : f_X7_asksArc_0 N K len x0 x1 x2 x3 M = some (r, Mr)) {H : Heap} {locs : List Loc} {ls : Array Slot} (hW : zWd D cy ad L K len M H) (hS : va_S (zA ad L s.heap.size) s.heap H locs) (hl : lv_has ls 4 [(0, .ref (ad x0)), (1, .int x1), (2, .int x2), (3, .int x3)]) : W p l e (headSpec wsX7_asksArc ({ frames := 2, cells := 0, slots := 0, locals := 43 } : Room)).room s m args below meth c H locs 0 0 (MQ below (zQi D cy ad L K len r Mr s.heap.size) args s 0 0 (zA ad L s.heap.size)) (F0 m 0 ls []) := by
  obtain ⟨hx, hb, hr, hml, hown, hts, hlocks, hK, hL, hE⟩ := id C0
  unfold f_X7_asksArc_0 at h
  refine lv_aload_n hx hb dX7_asksArc_0 rfl (lv_at hl 0 rfl) ?_
  refine lv_aload_n hx hb dX7_asksArc_1 rfl (lv_at hl 0 rfl) ?_
  refine lv_iload_n hx hb dX7_asksArc_2 rfl (lv_at hl 1 rfl) ?_
  refine lv_iload_n hx hb dX7_asksArc_3 rfl (lv_at hl 2 rfl) ?_
  obtain ⟨q1, e2, h⟩ := zb_some h
  obtain ⟨g3, h⟩ := zg_some h
  refine z_calli hS (va_runV (As := [.int x1, .int x2]) (rest := [.ref (ad x0)]) ⟨hx, hb, hml, hown, hts⟩ (m_X7_isPlace l hL N e2 H.size) (cwV 2 hts gX7_asksArc_X7_isPlace rfl rfl rfl (by decide +kernel) ⟨Nat.le_of_ble_eq_true rfl, Nat.le_of_ble_eq_true rfl⟩) (z_preV (q := (RX7, TX7, 20)) hK hL hE hW hS (zK_of g3) (by decide) rfl [.int x1, .int x2]) rfl rfl hl.1 rfl (lv_room (Nat.le_of_ble_eq_true rfl)) dX7_asksArc_4 ⟨Nat.le_of_ble_eq_true rfl, Nat.le_of_ble_eq_true rfl⟩) (fun H locs hW hS => ?_)
  refine lv_if_eq (tgt := 19) hx hb dX7_asksArc_7 (by decide) (fun c4 => ?_) (fun c4 => ?_)
  · have h := zip c4 h
    exact t_X7_asksArc_19 C0 N  h hW hS (lv_sub hl [0] rfl)
  · have h := zin c4 h
    refine lv_aload_n hx hb dX7_asksArc_10 rfl (lv_at hl 0 rfl) ?_
    refine lv_iload_n hx hb dX7_asksArc_11 rfl (lv_at hl 1 rfl) ?_
    refine lv_iload_n hx hb dX7_asksArc_12 rfl (lv_at hl 3 rfl) ?_
    obtain ⟨q5, e6, h⟩ := zb_some h
    refine z_calli hS (va_runV (As := [.int x1, .int x3]) (rest := [.ref (ad x0)]) ⟨hx, hb, hml, hown, hts⟩ (m_X7_isWord l hL N e6 H.size) (cwV 2 hts gX7_asksArc_X7_isWord rfl rfl rfl (by decide +kernel) ⟨Nat.le_of_ble_eq_true rfl, Nat.le_of_ble_eq_true rfl⟩) (z_preV (q := (RX7, TX7, 20)) hK hL hE hW hS (zK_of g3) (by decide) rfl [.int x1, .int x3]) rfl rfl hl.1 rfl (lv_room (Nat.le_of_ble_eq_true rfl)) dX7_asksArc_13 ⟨Nat.le_of_ble_eq_true rfl, Nat.le_of_ble_eq_true rfl⟩) (fun H locs hW hS => ?_)
    refine lv_if_ne (tgt := 23) hx hb dX7_asksArc_16 (by decide) (fun c7 => ?_) (fun c7 => ?_)
    · have h := zin c7 h
      refine lv_iload_n hx hb dX7_asksArc_23 rfl (lv_at hl 2 rfl) ?_
      refine lv_iload_n hx hb dX7_asksArc_24 rfl (lv_at hl 3 rfl) ?_
      refine lv_icmp_ne (tgt := 32) hx hb dX7_asksArc_25 (by decide) (fun c8 => ?_) (fun c8 => ?_)
      · have h := zin c8 h
        refine lv_iconst (v := 0) hx hb dX7_asksArc_32 (by decide) ?_
        exact t_X7_asksArc_33 C0 N  h hW hS (lv_sub hl [0] rfl)
      · have h := zip c8 h
        refine lv_iconst (v := 2) hx hb dX7_asksArc_28 (by decide) ?_
        refine lv_goto (tgt := 33) hx hb dX7_asksArc_29 (by decide) ?_
        exact t_X7_asksArc_33 C0 N  h hW hS (lv_sub hl [0] rfl)
    · have h := zip c7 h
      exact t_X7_asksArc_19 C0 N  h hW hS (lv_sub hl [0] rfl)
def f_X7_asksArc (N : Nat) (K len : Nat → Nat) (a0 : Nat) (a1 : Int32) (a2 : Int32) (a3 : Int32) (M : ZM) : Option (Int32 × ZM) := f_X7_asksArc_0 N K len a0 a1 a2 a3 M
set_option maxRecDepth 100000 in
set_option maxHeartbeats 4000000 in
theorem m_X7_asksArc (l : Launch) {D : va_G} {cy : Nat → ClassId} {ad : Nat → Nat} {L : List Nat} {K len : Nat → Nat} (hL : zSh ad L K) (N : Nat) {a0 : Nat} {a1 : Int32} {a2 : Int32} {a3 : Int32} {M : ZM} {r : Int32} {Mr : ZM} (h : f_X7_asksArc N K len a0 a1 a2 a3 M = some (r, Mr)) (sz : Nat) : Met l yX7_asksArc wsX7_asksArc ({ frames := 2, cells := 0, slots := 0, locals := 43 } : Room) (zPre D cy ad L K len sz [.ref (ad a0), .int a1, .int a2, .int a3] M) (zQi D cy ad L K len r Mr sz) 0 0 (zA ad L sz) :=
  z_entry (Qf := fun sz => zQi D cy ad L K len r Mr sz) (av := [.ref (ad a0), .int a1, .int a2, .int a3]) (by decide) rfl rfl hL (Nat.le_of_ble_eq_true rfl) (fun p e s m args below meth c C0 H locs ls hW hS hl => t_X7_asksArc_0 C0 N h hW hS (lv_sub hl [0, 1, 2, 3] rfl))
def f_X7_feature_0 (N : Nat) (K len : Nat → Nat) (x0 : Nat) (x1 : Int32) (x2 : Int32) (x3 : Int32) (x4 : Int32) (M : ZM) : Option (Int32 × ZM) :=
zbp (f_X7_asksArc N K len x0 x1 x2 x3 M) fun q1 M3 => (
zg (K x0 == 8) (
(if q1 = 0 then
some ((0 : Int32), M3)
else
(if x4 = 0 then
(f_X7_byKind N K len x0 x1 x2 x3 M3).bind fun q7 => (
some (q7, M3))
else
(f_X7_byDistance N x2 x3).bind fun q9 => (
some (q9, M3))))))
set_option maxRecDepth 100000 in
set_option maxHeartbeats 4000000 in
theorem t_X7_feature_0 {p : Program} {l : Launch} {e : Env} {s : State} {m : MethodId} {args : Array Value} {below : List Frame} {meth : Method} {c : Code} {D : va_G} {cy : Nat → ClassId} {ad : Nat → Nat} {L : List Nat} {K len : Nat → Nat} (C0 : zCx p s m c meth args cX7_feature 5 wsX7_feature RX7 (some .int) D cy ad L K) (N : Nat) {x0 : Nat} {x1 : Int32} {x2 : Int32} {x3 : Int32} {x4 : Int32} {M : ZM} {r : Int32} {Mr : ZM} (h : f_X7_feature_0 N K len x0 x1 x2 x3 x4 M = some (r, Mr)) {H : Heap} {locs : List Loc} {ls : Array Slot} (hW : zWd D cy ad L K len M H) (hS : va_S (zA ad L s.heap.size) s.heap H locs) (hl : lv_has ls 5 [(0, .ref (ad x0)), (1, .int x1), (2, .int x2), (3, .int x3), (4, .int x4)]) : W p l e (headSpec wsX7_feature ({ frames := 3, cells := 0, slots := 0, locals := 66 } : Room)).room s m args below meth c H locs 0 0 (MQ below (zQi D cy ad L K len r Mr s.heap.size) args s 0 0 (zA ad L s.heap.size)) (F0 m 0 ls []) := by
  obtain ⟨hx, hb, hr, hml, hown, hts, hlocks, hK, hL, hE⟩ := id C0
  unfold f_X7_feature_0 at h
  refine lv_aload_n hx hb dX7_feature_0 rfl (lv_at hl 0 rfl) ?_
  refine lv_iload_n hx hb dX7_feature_1 rfl (lv_at hl 1 rfl) ?_
  refine lv_iload_n hx hb dX7_feature_2 rfl (lv_at hl 2 rfl) ?_
  refine lv_iload_n hx hb dX7_feature_3 rfl (lv_at hl 3 rfl) ?_
  obtain ⟨q1, M3, e2, h⟩ := zbp_some h
  obtain ⟨g4, h⟩ := zg_some h
  refine z_calli hS (va_runV (As := [.int x1, .int x2, .int x3]) (rest := []) ⟨hx, hb, hml, hown, hts⟩ (m_X7_asksArc l hL N e2 H.size) (cwV 3 hts gX7_feature_X7_asksArc rfl rfl rfl (by decide +kernel) ⟨Nat.le_of_ble_eq_true rfl, Nat.le_of_ble_eq_true rfl⟩) (z_preV (q := (RX7, TX7, 20)) hK hL hE hW hS (zK_of g4) (by decide) rfl [.int x1, .int x2, .int x3]) rfl rfl hl.1 rfl (lv_room (Nat.le_of_ble_eq_true rfl)) dX7_feature_4 ⟨Nat.le_of_ble_eq_true rfl, Nat.le_of_ble_eq_true rfl⟩) (fun H locs hW hS => ?_)
  refine lv_if_ne (tgt := 14) hx hb dX7_feature_7 (by decide) (fun c5 => ?_) (fun c5 => ?_)
  · have h := zin c5 h
    refine lv_iload hx hb dX7_feature_14 (lv_at hl 4 rfl) ?_
    refine lv_if_eq (tgt := 27) hx hb dX7_feature_16 (by decide) (fun c6 => ?_) (fun c6 => ?_)
    · have h := zip c6 h
      refine lv_aload_n hx hb dX7_feature_27 rfl (lv_at hl 0 rfl) ?_
      refine lv_iload_n hx hb dX7_feature_28 rfl (lv_at hl 1 rfl) ?_
      refine lv_iload_n hx hb dX7_feature_29 rfl (lv_at hl 2 rfl) ?_
      refine lv_iload_n hx hb dX7_feature_30 rfl (lv_at hl 3 rfl) ?_
      obtain ⟨q7, e8, h⟩ := zb_some h
      refine z_calli hS (va_runV (As := [.int x1, .int x2, .int x3]) (rest := []) ⟨hx, hb, hml, hown, hts⟩ (m_X7_byKind l hL N e8 H.size) (cwV 3 hts gX7_feature_X7_byKind rfl rfl rfl (by decide +kernel) ⟨Nat.le_of_ble_eq_true rfl, Nat.le_of_ble_eq_true rfl⟩) (z_preV (q := (RX7, TX7, 20)) hK hL hE hW hS (zK_of g4) (by decide) rfl [.int x1, .int x2, .int x3]) rfl rfl hl.1 rfl (lv_room (Nat.le_of_ble_eq_true rfl)) dX7_feature_31 ⟨Nat.le_of_ble_eq_true rfl, Nat.le_of_ble_eq_true rfl⟩) (fun H locs hW hS => ?_)
      exact z_iret hx hb hr hlocks hW hS (congrArg Prod.fst (Option.some.inj h)) (congrArg Prod.snd (Option.some.inj h)) dX7_feature_34
    · have h := zin c6 h
      refine lv_iload_n hx hb dX7_feature_19 rfl (lv_at hl 2 rfl) ?_
      refine lv_iload_n hx hb dX7_feature_20 rfl (lv_at hl 3 rfl) ?_
      obtain ⟨q9, e10, h⟩ := zb_some h
      refine z_calli hS (va_runS (As := [.int x2, .int x3]) (rest := []) ⟨hx, hb, hml, hown, hts⟩ (m_X7_byDistance l (M := M3) hL N e10 H.size) (va_cwS 2 hts gX7_feature_X7_byDistance rfl rfl rfl (by decide +kernel) ⟨Nat.le_of_ble_eq_true rfl, Nat.le_of_ble_eq_true rfl⟩) (z_preS hK hE hW hS [.int x2, .int x3]) rfl rfl hl.1 rfl (lv_room (Nat.le_of_ble_eq_true rfl)) dX7_feature_21 ⟨Nat.le_of_ble_eq_true rfl, Nat.le_of_ble_eq_true rfl⟩) (fun H locs hW hS => ?_)
      refine lv_goto (tgt := 34) hx hb dX7_feature_24 (by decide) ?_
      exact z_iret hx hb hr hlocks hW hS (congrArg Prod.fst (Option.some.inj h)) (congrArg Prod.snd (Option.some.inj h)) dX7_feature_34
  · have h := zip c5 h
    refine lv_iconst (v := 0) hx hb dX7_feature_10 (by decide) ?_
    refine lv_goto (tgt := 34) hx hb dX7_feature_11 (by decide) ?_
    exact z_iret hx hb hr hlocks hW hS (congrArg Prod.fst (Option.some.inj h)) (congrArg Prod.snd (Option.some.inj h)) dX7_feature_34
def f_X7_feature (N : Nat) (K len : Nat → Nat) (a0 : Nat) (a1 : Int32) (a2 : Int32) (a3 : Int32) (a4 : Int32) (M : ZM) : Option (Int32 × ZM) := f_X7_feature_0 N K len a0 a1 a2 a3 a4 M
set_option maxRecDepth 100000 in
set_option maxHeartbeats 4000000 in
theorem m_X7_feature (l : Launch) {D : va_G} {cy : Nat → ClassId} {ad : Nat → Nat} {L : List Nat} {K len : Nat → Nat} (hL : zSh ad L K) (N : Nat) {a0 : Nat} {a1 : Int32} {a2 : Int32} {a3 : Int32} {a4 : Int32} {M : ZM} {r : Int32} {Mr : ZM} (h : f_X7_feature N K len a0 a1 a2 a3 a4 M = some (r, Mr)) (sz : Nat) : Met l yX7_feature wsX7_feature ({ frames := 3, cells := 0, slots := 0, locals := 66 } : Room) (zPre D cy ad L K len sz [.ref (ad a0), .int a1, .int a2, .int a3, .int a4] M) (zQi D cy ad L K len r Mr sz) 0 0 (zA ad L sz) :=
  z_entry (Qf := fun sz => zQi D cy ad L K len r Mr sz) (av := [.ref (ad a0), .int a1, .int a2, .int a3, .int a4]) (by decide) rfl rfl hL (Nat.le_of_ble_eq_true rfl) (fun p e s m args below meth c C0 H locs ls hW hS hl => t_X7_feature_0 C0 N h hW hS (lv_sub hl [0, 1, 2, 3, 4] rfl))
def f_X7_score_0 (N : Nat) (K len : Nat → Nat) (x0 : Nat) (x1 : Int32) (x2 : Int32) (x3 : Int32) (M : ZM) : Option (Int32 × ZM) :=
zbp (f_X7_asksArc N K len x0 x1 x2 x3 M) fun q1 M3 => (
zg (K x0 == 8) (
(if q1 = 0 then
some ((0 : Int32), M3)
else
(f_X7_scoreOf N K len x0 x1 x2 x3 M3).bind fun q6 => (
some (q6, M3)))))
set_option maxRecDepth 100000 in
set_option maxHeartbeats 4000000 in
theorem t_X7_score_0 {p : Program} {l : Launch} {e : Env} {s : State} {m : MethodId} {args : Array Value} {below : List Frame} {meth : Method} {c : Code} {D : va_G} {cy : Nat → ClassId} {ad : Nat → Nat} {L : List Nat} {K len : Nat → Nat} (C0 : zCx p s m c meth args cX7_score 4 wsX7_score RX7 (some .int) D cy ad L K) (N : Nat) {x0 : Nat} {x1 : Int32} {x2 : Int32} {x3 : Int32} {M : ZM} {r : Int32} {Mr : ZM} (h : f_X7_score_0 N K len x0 x1 x2 x3 M = some (r, Mr)) {H : Heap} {locs : List Loc} {ls : Array Slot} (hW : zWd D cy ad L K len M H) (hS : va_S (zA ad L s.heap.size) s.heap H locs) (hl : lv_has ls 4 [(0, .ref (ad x0)), (1, .int x1), (2, .int x2), (3, .int x3)]) : W p l e (headSpec wsX7_score ({ frames := 3, cells := 0, slots := 0, locals := 66 } : Room)).room s m args below meth c H locs 0 0 (MQ below (zQi D cy ad L K len r Mr s.heap.size) args s 0 0 (zA ad L s.heap.size)) (F0 m 0 ls []) := by
  obtain ⟨hx, hb, hr, hml, hown, hts, hlocks, hK, hL, hE⟩ := id C0
  unfold f_X7_score_0 at h
  refine lv_aload_n hx hb dX7_score_0 rfl (lv_at hl 0 rfl) ?_
  refine lv_iload_n hx hb dX7_score_1 rfl (lv_at hl 1 rfl) ?_
  refine lv_iload_n hx hb dX7_score_2 rfl (lv_at hl 2 rfl) ?_
  refine lv_iload_n hx hb dX7_score_3 rfl (lv_at hl 3 rfl) ?_
  obtain ⟨q1, M3, e2, h⟩ := zbp_some h
  obtain ⟨g4, h⟩ := zg_some h
  refine z_calli hS (va_runV (As := [.int x1, .int x2, .int x3]) (rest := []) ⟨hx, hb, hml, hown, hts⟩ (m_X7_asksArc l hL N e2 H.size) (cwV 3 hts gX7_score_X7_asksArc rfl rfl rfl (by decide +kernel) ⟨Nat.le_of_ble_eq_true rfl, Nat.le_of_ble_eq_true rfl⟩) (z_preV (q := (RX7, TX7, 20)) hK hL hE hW hS (zK_of g4) (by decide) rfl [.int x1, .int x2, .int x3]) rfl rfl hl.1 rfl (lv_room (Nat.le_of_ble_eq_true rfl)) dX7_score_4 ⟨Nat.le_of_ble_eq_true rfl, Nat.le_of_ble_eq_true rfl⟩) (fun H locs hW hS => ?_)
  refine lv_if_eq (tgt := 20) hx hb dX7_score_7 (by decide) (fun c5 => ?_) (fun c5 => ?_)
  · have h := zip c5 h
    refine lv_iconst (v := 0) hx hb dX7_score_20 (by decide) ?_
    exact z_iret hx hb hr hlocks hW hS (congrArg Prod.fst (Option.some.inj h)) (congrArg Prod.snd (Option.some.inj h)) dX7_score_21
  · have h := zin c5 h
    refine lv_aload_n hx hb dX7_score_10 rfl (lv_at hl 0 rfl) ?_
    refine lv_iload_n hx hb dX7_score_11 rfl (lv_at hl 1 rfl) ?_
    refine lv_iload_n hx hb dX7_score_12 rfl (lv_at hl 2 rfl) ?_
    refine lv_iload_n hx hb dX7_score_13 rfl (lv_at hl 3 rfl) ?_
    obtain ⟨q6, e7, h⟩ := zb_some h
    refine z_calli hS (va_runV (As := [.int x1, .int x2, .int x3]) (rest := []) ⟨hx, hb, hml, hown, hts⟩ (m_X7_scoreOf l hL N e7 H.size) (cwV 3 hts gX7_score_X7_scoreOf rfl rfl rfl (by decide +kernel) ⟨Nat.le_of_ble_eq_true rfl, Nat.le_of_ble_eq_true rfl⟩) (z_preV (q := (RX7, TX7, 20)) hK hL hE hW hS (zK_of g4) (by decide) rfl [.int x1, .int x2, .int x3]) rfl rfl hl.1 rfl (lv_room (Nat.le_of_ble_eq_true rfl)) dX7_score_14 ⟨Nat.le_of_ble_eq_true rfl, Nat.le_of_ble_eq_true rfl⟩) (fun H locs hW hS => ?_)
    refine lv_goto (tgt := 21) hx hb dX7_score_17 (by decide) ?_
    exact z_iret hx hb hr hlocks hW hS (congrArg Prod.fst (Option.some.inj h)) (congrArg Prod.snd (Option.some.inj h)) dX7_score_21
def f_X7_score (N : Nat) (K len : Nat → Nat) (a0 : Nat) (a1 : Int32) (a2 : Int32) (a3 : Int32) (M : ZM) : Option (Int32 × ZM) := f_X7_score_0 N K len a0 a1 a2 a3 M
set_option maxRecDepth 100000 in
set_option maxHeartbeats 4000000 in
theorem m_X7_score (l : Launch) {D : va_G} {cy : Nat → ClassId} {ad : Nat → Nat} {L : List Nat} {K len : Nat → Nat} (hL : zSh ad L K) (N : Nat) {a0 : Nat} {a1 : Int32} {a2 : Int32} {a3 : Int32} {M : ZM} {r : Int32} {Mr : ZM} (h : f_X7_score N K len a0 a1 a2 a3 M = some (r, Mr)) (sz : Nat) : Met l yX7_score wsX7_score ({ frames := 3, cells := 0, slots := 0, locals := 66 } : Room) (zPre D cy ad L K len sz [.ref (ad a0), .int a1, .int a2, .int a3] M) (zQi D cy ad L K len r Mr sz) 0 0 (zA ad L sz) :=
  z_entry (Qf := fun sz => zQi D cy ad L K len r Mr sz) (av := [.ref (ad a0), .int a1, .int a2, .int a3]) (by decide) rfl rfl hL (Nat.le_of_ble_eq_true rfl) (fun p e s m args below meth c C0 H locs ls hW hS hl => t_X7_score_0 C0 N h hW hS (lv_sub hl [0, 1, 2, 3] rfl))
def f_X7_arc_0 (N : Nat) (x1 : Int32) (x2 : Int32) (x3 : Int32) : Option (Int32) :=
some ((((49 : Int32) * x1) + ((7 : Int32) * x3)) + x2)
set_option maxRecDepth 100000 in
set_option maxHeartbeats 4000000 in
theorem t_X7_arc_0 {p : Program} {l : Launch} {e : Env} {s : State} {m : MethodId} {args : Array Value} {below : List Frame} {meth : Method} {c : Code} {D : va_G} {cy : Nat → ClassId} {ad : Nat → Nat} {L : List Nat} {K len : Nat → Nat} (C0 : zCx p s m c meth args cX7_arc 4 wsX7_arc RX7 (some .int) D cy ad L K) (N : Nat) {x1 : Int32} {x2 : Int32} {x3 : Int32} {M : ZM} {r : Int32} (h : f_X7_arc_0 N x1 x2 x3 = some r) {H : Heap} {locs : List Loc} {ls : Array Slot} (hW : zWd D cy ad L K len M H) (hS : va_S (zA ad L s.heap.size) s.heap H locs) (hl : lv_has ls 4 [(1, .int x1), (2, .int x2), (3, .int x3)]) : W p l e (headSpec wsX7_arc ({ frames := 0, cells := 0, slots := 0, locals := 0 } : Room)).room s m args below meth c H locs 0 0 (MQ below (zQi D cy ad L K len r M s.heap.size) args s 0 0 (zA ad L s.heap.size)) (F0 m 0 ls []) := by
  obtain ⟨hx, hb, hr, hml, hown, hts, hlocks, hK, hL, hE⟩ := id C0
  unfold f_X7_arc_0 at h
  refine lv_bipush (v := 49) hx hb dX7_arc_0 (by decide) ?_
  refine lv_iload_n hx hb dX7_arc_2 rfl (lv_at hl 0 rfl) ?_
  refine lv_imul hx hb dX7_arc_3 ?_
  refine lv_bipush (v := 7) hx hb dX7_arc_4 (by decide) ?_
  refine lv_iload_n hx hb dX7_arc_6 rfl (lv_at hl 2 rfl) ?_
  refine lv_imul hx hb dX7_arc_7 ?_
  refine lv_iadd hx hb dX7_arc_8 ?_
  refine lv_iload_n hx hb dX7_arc_9 rfl (lv_at hl 1 rfl) ?_
  refine lv_iadd hx hb dX7_arc_10 ?_
  exact z_iret hx hb hr hlocks hW hS (Option.some.inj h) rfl dX7_arc_11
def f_X7_arc (N : Nat) (a0 : Nat) (a1 : Int32) (a2 : Int32) (a3 : Int32) : Option (Int32) := f_X7_arc_0 N a1 a2 a3
set_option maxRecDepth 100000 in
set_option maxHeartbeats 4000000 in
theorem m_X7_arc (l : Launch) {D : va_G} {cy : Nat → ClassId} {ad : Nat → Nat} {L : List Nat} {K len : Nat → Nat} (hL : zSh ad L K) (N : Nat) {a0 : Nat} {a1 : Int32} {a2 : Int32} {a3 : Int32} {M : ZM} {r : Int32} (h : f_X7_arc N a0 a1 a2 a3 = some r) (sz : Nat) : Met l yX7_arc wsX7_arc ({ frames := 0, cells := 0, slots := 0, locals := 0 } : Room) (zPre D cy ad L K len sz [.ref (ad a0), .int a1, .int a2, .int a3] M) (zQi D cy ad L K len r M sz) 0 0 (zA ad L sz) :=
  z_entry (Qf := fun sz => zQi D cy ad L K len r M sz) (av := [.ref (ad a0), .int a1, .int a2, .int a3]) (by decide) rfl rfl hL (Nat.le_of_ble_eq_true rfl) (fun p e s m args below meth c C0 H locs ls hW hS hl => t_X7_arc_0 C0 N h hW hS (lv_sub hl [1, 2, 3] rfl))
def f_X7_mark_100 (N : Nat) (K len : Nat → Nat) (x0 : Nat) (x1 : Int32) (x2 : Int32) (x3 : Int32) (x4 : Int32) (M : ZM) : Option (Int32 × ZM) :=
zg (K x0 == 8) (
(zR M x0 3).bind fun b2 => (
(f_X7_arc N x0 x1 x2 x3).bind fun q4 => (
zg (zok K len b2 11 q4) (
(f_X7_arc N x0 x1 x2 x3).bind fun q7 => (
zg (zok K len b2 11 q7) (
zl (zsI M b2 q7.toNatClampNeg x4) fun M10 => (
(f_X7_changed N K len x0 M10).bind fun M14 => (
some ((zI M b2 q4.toNatClampNeg), M14)))))))))
set_option maxRecDepth 100000 in
set_option maxHeartbeats 4000000 in
theorem t_X7_mark_100 {p : Program} {l : Launch} {e : Env} {s : State} {m : MethodId} {args : Array Value} {below : List Frame} {meth : Method} {c : Code} {D : va_G} {cy : Nat → ClassId} {ad : Nat → Nat} {L : List Nat} {K len : Nat → Nat} (C0 : zCx p s m c meth args cX7_mark 7 wsX7_mark RX7 (some .int) D cy ad L K) (N : Nat) {x0 : Nat} {x1 : Int32} {x2 : Int32} {x3 : Int32} {x4 : Int32} {M : ZM} {r : Int32} {Mr : ZM} (h : f_X7_mark_100 N K len x0 x1 x2 x3 x4 M = some (r, Mr)) {H : Heap} {locs : List Loc} {ls : Array Slot} (hW : zWd D cy ad L K len M H) (hS : va_S (zA ad L s.heap.size) s.heap H locs) (hl : lv_has ls 7 [(0, .ref (ad x0)), (1, .int x1), (2, .int x2), (3, .int x3), (4, .int x4)]) : W p l e (headSpec wsX7_mark ({ frames := 3, cells := 0, slots := 0, locals := 66 } : Room)).room s m args below meth c H locs 0 0 (MQ below (zQi D cy ad L K len r Mr s.heap.size) args s 0 0 (zA ad L s.heap.size)) (F0 m 100 ls []) := by
  obtain ⟨hx, hb, hr, hml, hown, hts, hlocks, hK, hL, hE⟩ := id C0
  have hinX7 : ∀ w ∈ wsX70, w ∈ wsX7_mark := by decide +kernel
  unfold f_X7_mark_100 at h
  refine lv_aload_n hx hb dX7_mark_100 rfl (lv_at hl 0 rfl) ?_
  obtain ⟨g1, h⟩ := zg_some h
  obtain ⟨b2, e3, h⟩ := zb_some h
  refine z_get (own := RX7) (C := RX7) (T := TX7) (N := 20) (ci := 7) hx hb hts hinX7 hown hK hL hW 3 (zK_of g1) rfl (by decide) (by decide) rfl (hts (.fieldLink RX7 16 "ArcLightModel" "mark" "[I") (by decide +kernel)) (v := .ref (ad b2)) (zhvR e3 rfl) dX7_mark_101 ?_
  refine lv_aload_n hx hb dX7_mark_104 rfl (lv_at hl 0 rfl) ?_
  refine lv_iload_n hx hb dX7_mark_105 rfl (lv_at hl 1 rfl) ?_
  refine lv_iload_n hx hb dX7_mark_106 rfl (lv_at hl 2 rfl) ?_
  refine lv_iload_n hx hb dX7_mark_107 rfl (lv_at hl 3 rfl) ?_
  obtain ⟨q4, e5, h⟩ := zb_some h
  refine z_calli hS (va_runV (As := [.int x1, .int x2, .int x3]) (rest := [.ref (ad b2)]) ⟨hx, hb, hml, hown, hts⟩ (m_X7_arc l (M := M) hL N e5 H.size) (cwV 3 hts gX7_mark_X7_arc rfl rfl rfl (by decide +kernel) ⟨Nat.le_of_ble_eq_true rfl, Nat.le_of_ble_eq_true rfl⟩) (z_preV (q := (RX7, TX7, 20)) hK hL hE hW hS (zK_of g1) (by decide) rfl [.int x1, .int x2, .int x3]) rfl rfl hl.1 rfl (lv_room (Nat.le_of_ble_eq_true rfl)) dX7_mark_108 ⟨Nat.le_of_ble_eq_true rfl, Nat.le_of_ble_eq_true rfl⟩) (fun H locs hW hS => ?_)
  obtain ⟨g6, h⟩ := zg_some h
  refine z_iald hx hb hK hL hW g6 dX7_mark_111 ?_
  refine lv_istore (lv' := [(6, .int (zI M b2 q4.toNatClampNeg)), (0, .ref (ad x0)), (1, .int x1), (2, .int x2), (3, .int x3), (4, .int x4)]) hx hb dX7_mark_112 hl (by decide) rfl (fun ls hl => ?_)
  refine lv_aload_n hx hb dX7_mark_114 rfl (lv_at hl 1 rfl) ?_
  refine z_get (own := RX7) (C := RX7) (T := TX7) (N := 20) (ci := 7) hx hb hts hinX7 hown hK hL hW 3 (zK_of g1) rfl (by decide) (by decide) rfl (hts (.fieldLink RX7 16 "ArcLightModel" "mark" "[I") (by decide +kernel)) (v := .ref (ad b2)) (zhvR e3 rfl) dX7_mark_115 ?_
  refine lv_aload_n hx hb dX7_mark_118 rfl (lv_at hl 1 rfl) ?_
  refine lv_iload_n hx hb dX7_mark_119 rfl (lv_at hl 2 rfl) ?_
  refine lv_iload_n hx hb dX7_mark_120 rfl (lv_at hl 3 rfl) ?_
  refine lv_iload_n hx hb dX7_mark_121 rfl (lv_at hl 4 rfl) ?_
  obtain ⟨q7, e8, h⟩ := zb_some h
  refine z_calli hS (va_runV (As := [.int x1, .int x2, .int x3]) (rest := [.ref (ad b2)]) ⟨hx, hb, hml, hown, hts⟩ (m_X7_arc l (M := M) hL N e8 H.size) (cwV 3 hts gX7_mark_X7_arc rfl rfl rfl (by decide +kernel) ⟨Nat.le_of_ble_eq_true rfl, Nat.le_of_ble_eq_true rfl⟩) (z_preV (q := (RX7, TX7, 20)) hK hL hE hW hS (zK_of g1) (by decide) rfl [.int x1, .int x2, .int x3]) rfl rfl hl.1 rfl (lv_room (Nat.le_of_ble_eq_true rfl)) dX7_mark_122 ⟨Nat.le_of_ble_eq_true rfl, Nat.le_of_ble_eq_true rfl⟩) (fun H locs hW hS => ?_)
  refine lv_iload hx hb dX7_mark_125 (lv_at hl 5 rfl) ?_
  obtain ⟨g9, h⟩ := zg_some h
  refine z_iast hx hb hK hL hW hS g9 dX7_mark_127 (fun H locs hW hS => ?_)
  obtain ⟨M10, eM11, h⟩ := zl_some h
  rw [← eM11] at hW
  refine lv_aload_n hx hb dX7_mark_128 rfl (lv_at hl 1 rfl) ?_
  obtain ⟨M14, e13, h⟩ := zb_some h
  refine z_callv hS (va_runV (As := []) (rest := []) ⟨hx, hb, hml, hown, hts⟩ (m_X7_changed l hL N e13 H.size) (cwV 0 hts gX7_mark_X7_changed rfl rfl rfl (by decide +kernel) ⟨Nat.le_of_ble_eq_true rfl, Nat.le_of_ble_eq_true rfl⟩) (z_preV (q := (RX7, TX7, 20)) hK hL hE hW hS (zK_of g1) (by decide) rfl []) rfl rfl hl.1 rfl (lv_room (Nat.le_of_ble_eq_true rfl)) dX7_mark_129 ⟨Nat.le_of_ble_eq_true rfl, Nat.le_of_ble_eq_true rfl⟩) (fun H locs hW hS => ?_)
  refine lv_iload hx hb dX7_mark_132 (lv_at hl 0 rfl) ?_
  exact z_iret hx hb hr hlocks hW hS (congrArg Prod.fst (Option.some.inj h)) (congrArg Prod.snd (Option.some.inj h)) dX7_mark_134
def f_X7_mark_75 (N : Nat) (K len : Nat → Nat) (kh35 : Nat → Int32 → Int32 → Int32 → Int32 → Int32 → Int32 → ZM → Option (Int32 × ZM)) (x0 : Nat) (x1 : Int32) (x2 : Int32) (x3 : Int32) (x4 : Int32) (x6 : Int32) (s0 : Int32) (M : ZM) : Option (Int32 × ZM) :=
kh35 x0 x1 x2 x3 x4 s0 (x6 + 1) M
set_option maxRecDepth 100000 in
set_option maxHeartbeats 4000000 in
theorem t_X7_mark_75 {p : Program} {l : Launch} {e : Env} {s : State} {m : MethodId} {args : Array Value} {below : List Frame} {meth : Method} {c : Code} {D : va_G} {cy : Nat → ClassId} {ad : Nat → Nat} {L : List Nat} {K len : Nat → Nat} (C0 : zCx p s m c meth args cX7_mark 7 wsX7_mark RX7 (some .int) D cy ad L K) (N : Nat) {kh35 : Nat → Int32 → Int32 → Int32 → Int32 → Int32 → Int32 → ZM → Option (Int32 × ZM)} {x0 : Nat} {x1 : Int32} {x2 : Int32} {x3 : Int32} {x4 : Int32} {x6 : Int32} {s0 : Int32} {M : ZM} {r : Int32} {Mr : ZM} (hk35 : ∀ {y0 : Nat} {y1 : Int32} {y2 : Int32} {y3 : Int32} {y4 : Int32} {y5 : Int32} {y6 : Int32} {M : ZM}, kh35 y0 y1 y2 y3 y4 y5 y6 M = some (r, Mr) → ∀ {H : Heap} {locs : List Loc} {ls : Array Slot}, zWd D cy ad L K len M H → va_S (zA ad L s.heap.size) s.heap H locs → lv_has ls 7 [(0, .ref (ad y0)), (1, .int y1), (2, .int y2), (3, .int y3), (4, .int y4), (5, .int y5), (6, .int y6)] → W p l e (headSpec wsX7_mark ({ frames := 3, cells := 0, slots := 0, locals := 66 } : Room)).room s m args below meth c H locs 0 0 (MQ below (zQi D cy ad L K len r Mr s.heap.size) args s 0 0 (zA ad L s.heap.size)) (F0 m 35 ls [])) (h : f_X7_mark_75 N K len kh35 x0 x1 x2 x3 x4 x6 s0 M = some (r, Mr)) {H : Heap} {locs : List Loc} {ls : Array Slot} (hW : zWd D cy ad L K len M H) (hS : va_S (zA ad L s.heap.size) s.heap H locs) (hl : lv_has ls 7 [(0, .ref (ad x0)), (1, .int x1), (2, .int x2), (3, .int x3), (4, .int x4), (6, .int x6)]) : W p l e (headSpec wsX7_mark ({ frames := 3, cells := 0, slots := 0, locals := 66 } : Room)).room s m args below meth c H locs 0 0 (MQ below (zQi D cy ad L K len r Mr s.heap.size) args s 0 0 (zA ad L s.heap.size)) (F0 m 75 ls [.int s0]) := by
  obtain ⟨hx, hb, hr, hml, hown, hts, hlocks, hK, hL, hE⟩ := id C0
  unfold f_X7_mark_75 at h
  refine lv_istore (lv' := [(5, .int s0), (0, .ref (ad x0)), (1, .int x1), (2, .int x2), (3, .int x3), (4, .int x4), (6, .int x6)]) hx hb dX7_mark_75 hl (by decide) rfl (fun ls hl => ?_)
  refine lv_iinc (k := 6) (v := (x6 + 1)) (lv' := [(6, .int (x6 + 1)), (5, .int s0), (0, .ref (ad x0)), (1, .int x1), (2, .int x2), (3, .int x3), (4, .int x4)]) hx hb dX7_mark_77 hl rfl (by rw [show Int32.ofInt 1 = (1 : Int32) from by decide]) (by decide) rfl (fun ls hl => ?_)
  refine lv_goto (tgt := 35) hx hb dX7_mark_80 (by decide) ?_
  exact hk35 h hW hS (lv_sub hl [2, 3, 4, 5, 6, 1, 0] rfl)
def f_X7_mark_74 (N : Nat) (K len : Nat → Nat) (kh35 : Nat → Int32 → Int32 → Int32 → Int32 → Int32 → Int32 → ZM → Option (Int32 × ZM)) (x0 : Nat) (x1 : Int32) (x2 : Int32) (x3 : Int32) (x4 : Int32) (x6 : Int32) (M : ZM) : Option (Int32 × ZM) :=
f_X7_mark_75 N K len kh35 x0 x1 x2 x3 x4 x6 (0 : Int32) M
set_option maxRecDepth 100000 in
set_option maxHeartbeats 4000000 in
theorem t_X7_mark_74 {p : Program} {l : Launch} {e : Env} {s : State} {m : MethodId} {args : Array Value} {below : List Frame} {meth : Method} {c : Code} {D : va_G} {cy : Nat → ClassId} {ad : Nat → Nat} {L : List Nat} {K len : Nat → Nat} (C0 : zCx p s m c meth args cX7_mark 7 wsX7_mark RX7 (some .int) D cy ad L K) (N : Nat) {kh35 : Nat → Int32 → Int32 → Int32 → Int32 → Int32 → Int32 → ZM → Option (Int32 × ZM)} {x0 : Nat} {x1 : Int32} {x2 : Int32} {x3 : Int32} {x4 : Int32} {x6 : Int32} {M : ZM} {r : Int32} {Mr : ZM} (hk35 : ∀ {y0 : Nat} {y1 : Int32} {y2 : Int32} {y3 : Int32} {y4 : Int32} {y5 : Int32} {y6 : Int32} {M : ZM}, kh35 y0 y1 y2 y3 y4 y5 y6 M = some (r, Mr) → ∀ {H : Heap} {locs : List Loc} {ls : Array Slot}, zWd D cy ad L K len M H → va_S (zA ad L s.heap.size) s.heap H locs → lv_has ls 7 [(0, .ref (ad y0)), (1, .int y1), (2, .int y2), (3, .int y3), (4, .int y4), (5, .int y5), (6, .int y6)] → W p l e (headSpec wsX7_mark ({ frames := 3, cells := 0, slots := 0, locals := 66 } : Room)).room s m args below meth c H locs 0 0 (MQ below (zQi D cy ad L K len r Mr s.heap.size) args s 0 0 (zA ad L s.heap.size)) (F0 m 35 ls [])) (h : f_X7_mark_74 N K len kh35 x0 x1 x2 x3 x4 x6 M = some (r, Mr)) {H : Heap} {locs : List Loc} {ls : Array Slot} (hW : zWd D cy ad L K len M H) (hS : va_S (zA ad L s.heap.size) s.heap H locs) (hl : lv_has ls 7 [(0, .ref (ad x0)), (1, .int x1), (2, .int x2), (3, .int x3), (4, .int x4), (6, .int x6)]) : W p l e (headSpec wsX7_mark ({ frames := 3, cells := 0, slots := 0, locals := 66 } : Room)).room s m args below meth c H locs 0 0 (MQ below (zQi D cy ad L K len r Mr s.heap.size) args s 0 0 (zA ad L s.heap.size)) (F0 m 74 ls []) := by
  obtain ⟨hx, hb, hr, hml, hown, hts, hlocks, hK, hL, hE⟩ := id C0
  unfold f_X7_mark_74 at h
  refine lv_iconst (v := 0) hx hb dX7_mark_74 (by decide) ?_
  exact t_X7_mark_75 C0 N hk35 h hW hS (lv_sub hl [0, 1, 2, 3, 4, 5] rfl)
def f_X7_mark_70 (N : Nat) (K len : Nat → Nat) (kh35 : Nat → Int32 → Int32 → Int32 → Int32 → Int32 → Int32 → ZM → Option (Int32 × ZM)) (x0 : Nat) (x1 : Int32) (x2 : Int32) (x3 : Int32) (x4 : Int32) (x6 : Int32) (M : ZM) : Option (Int32 × ZM) :=
f_X7_mark_75 N K len kh35 x0 x1 x2 x3 x4 x6 (1 : Int32) M
set_option maxRecDepth 100000 in
set_option maxHeartbeats 4000000 in
theorem t_X7_mark_70 {p : Program} {l : Launch} {e : Env} {s : State} {m : MethodId} {args : Array Value} {below : List Frame} {meth : Method} {c : Code} {D : va_G} {cy : Nat → ClassId} {ad : Nat → Nat} {L : List Nat} {K len : Nat → Nat} (C0 : zCx p s m c meth args cX7_mark 7 wsX7_mark RX7 (some .int) D cy ad L K) (N : Nat) {kh35 : Nat → Int32 → Int32 → Int32 → Int32 → Int32 → Int32 → ZM → Option (Int32 × ZM)} {x0 : Nat} {x1 : Int32} {x2 : Int32} {x3 : Int32} {x4 : Int32} {x6 : Int32} {M : ZM} {r : Int32} {Mr : ZM} (hk35 : ∀ {y0 : Nat} {y1 : Int32} {y2 : Int32} {y3 : Int32} {y4 : Int32} {y5 : Int32} {y6 : Int32} {M : ZM}, kh35 y0 y1 y2 y3 y4 y5 y6 M = some (r, Mr) → ∀ {H : Heap} {locs : List Loc} {ls : Array Slot}, zWd D cy ad L K len M H → va_S (zA ad L s.heap.size) s.heap H locs → lv_has ls 7 [(0, .ref (ad y0)), (1, .int y1), (2, .int y2), (3, .int y3), (4, .int y4), (5, .int y5), (6, .int y6)] → W p l e (headSpec wsX7_mark ({ frames := 3, cells := 0, slots := 0, locals := 66 } : Room)).room s m args below meth c H locs 0 0 (MQ below (zQi D cy ad L K len r Mr s.heap.size) args s 0 0 (zA ad L s.heap.size)) (F0 m 35 ls [])) (h : f_X7_mark_70 N K len kh35 x0 x1 x2 x3 x4 x6 M = some (r, Mr)) {H : Heap} {locs : List Loc} {ls : Array Slot} (hW : zWd D cy ad L K len M H) (hS : va_S (zA ad L s.heap.size) s.heap H locs) (hl : lv_has ls 7 [(0, .ref (ad x0)), (1, .int x1), (2, .int x2), (3, .int x3), (4, .int x4), (6, .int x6)]) : W p l e (headSpec wsX7_mark ({ frames := 3, cells := 0, slots := 0, locals := 66 } : Room)).room s m args below meth c H locs 0 0 (MQ below (zQi D cy ad L K len r Mr s.heap.size) args s 0 0 (zA ad L s.heap.size)) (F0 m 70 ls []) := by
  obtain ⟨hx, hb, hr, hml, hown, hts, hlocks, hK, hL, hE⟩ := id C0
  unfold f_X7_mark_70 at h
  refine lv_iconst (v := 1) hx hb dX7_mark_70 (by decide) ?_
  refine lv_goto (tgt := 75) hx hb dX7_mark_71 (by decide) ?_
  exact t_X7_mark_75 C0 N hk35 h hW hS (lv_sub hl [0, 1, 2, 3, 4, 5] rfl)
def f_X7_mark_35 (N : Nat) (K len : Nat → Nat) : Nat → Nat → Int32 → Int32 → Int32 → Int32 → Int32 → Int32 → ZM → Option (Int32 × ZM)
  | 0, _, _, _, _, _, _, _, _ => none
  | n + 1, x0, x1, x2, x3, x4, x5, x6, M =>
    (if (6 : Int32) < x6 then
    (if x4 = (1 : Int32) then
    (if x5 = 0 then
    f_X7_mark_100 N K len  x0 x1 x2 x3 x4 M
    else
    zbp (f_X7_fails N K len x0 (3 : Int32) M) fun q4 M6 => (
    zg (K x0 == 8) (
    some (q4, M6))))
    else
    f_X7_mark_100 N K len  x0 x1 x2 x3 x4 M)
    else
    (if x5 = 0 then
    (if x6 = x2 then
    f_X7_mark_74 N K len (fun y0 y1 y2 y3 y4 y5 y6 M => f_X7_mark_35 N K len  n y0 y1 y2 y3 y4 y5 y6 M) x0 x1 x2 x3 x4 x6 M
    else
    zg (K x0 == 8) (
    (zR M x0 3).bind fun b11 => (
    (f_X7_arc N x0 x1 x6 x3).bind fun q13 => (
    zg (zok K len b11 11 q13) (
    (if (zI M b11 q13.toNatClampNeg) = (1 : Int32) then
    f_X7_mark_70 N K len (fun y0 y1 y2 y3 y4 y5 y6 M => f_X7_mark_35 N K len  n y0 y1 y2 y3 y4 y5 y6 M) x0 x1 x2 x3 x4 x6 M
    else
    f_X7_mark_74 N K len (fun y0 y1 y2 y3 y4 y5 y6 M => f_X7_mark_35 N K len  n y0 y1 y2 y3 y4 y5 y6 M) x0 x1 x2 x3 x4 x6 M))))))
    else
    f_X7_mark_70 N K len (fun y0 y1 y2 y3 y4 y5 y6 M => f_X7_mark_35 N K len  n y0 y1 y2 y3 y4 y5 y6 M) x0 x1 x2 x3 x4 x6 M))
set_option maxRecDepth 100000 in
set_option maxHeartbeats 4000000 in
theorem t_X7_mark_35 {p : Program} {l : Launch} {e : Env} {s : State} {m : MethodId} {args : Array Value} {below : List Frame} {meth : Method} {c : Code} {D : va_G} {cy : Nat → ClassId} {ad : Nat → Nat} {L : List Nat} {K len : Nat → Nat} (C0 : zCx p s m c meth args cX7_mark 7 wsX7_mark RX7 (some .int) D cy ad L K) (N : Nat) {r : Int32} {Mr : ZM} : ∀ (n : Nat) {x0 : Nat} {x1 : Int32} {x2 : Int32} {x3 : Int32} {x4 : Int32} {x5 : Int32} {x6 : Int32} {M : ZM}, f_X7_mark_35 N K len n x0 x1 x2 x3 x4 x5 x6 M = some (r, Mr) → ∀ {H : Heap} {locs : List Loc} {ls : Array Slot}, zWd D cy ad L K len M H → va_S (zA ad L s.heap.size) s.heap H locs → lv_has ls 7 [(0, .ref (ad x0)), (1, .int x1), (2, .int x2), (3, .int x3), (4, .int x4), (5, .int x5), (6, .int x6)] → W p l e (headSpec wsX7_mark ({ frames := 3, cells := 0, slots := 0, locals := 66 } : Room)).room s m args below meth c H locs 0 0 (MQ below (zQi D cy ad L K len r Mr s.heap.size) args s 0 0 (zA ad L s.heap.size)) (F0 m 35 ls []) := by
  obtain ⟨hx, hb, hr, hml, hown, hts, hlocks, hK, hL, hE⟩ := id C0
  have hinX7 : ∀ w ∈ wsX70, w ∈ wsX7_mark := by decide +kernel
  intro n
  induction n with
  | zero =>
    intro x0 x1 x2 x3 x4 x5 x6 M h
    cases (show (none : Option (Int32 × ZM)) = some (r, Mr) from h)
  | succ n ih =>
    intro x0 x1 x2 x3 x4 x5 x6 M h H locs ls hW hS hl
    rw [f_X7_mark_35] at h
    refine lv_iload hx hb dX7_mark_35 (lv_at hl 6 rfl) ?_
    refine lv_bipush (v := 6) hx hb dX7_mark_37 (by decide) ?_
    refine lv_icmp_gt (tgt := 83) hx hb dX7_mark_39 (by decide) (fun c1 => ?_) (fun c1 => ?_)
    · have h := zip c1 h
      refine lv_iload hx hb dX7_mark_83 (lv_at hl 4 rfl) ?_
      refine lv_iconst (v := 1) hx hb dX7_mark_85 (by decide) ?_
      refine lv_icmp_ne (tgt := 100) hx hb dX7_mark_86 (by decide) (fun c2 => ?_) (fun c2 => ?_)
      · have h := zin c2 h
        exact t_X7_mark_100 C0 N  h hW hS (lv_sub hl [0, 1, 2, 3, 4] rfl)
      · have h := zip c2 h
        refine lv_iload hx hb dX7_mark_89 (lv_at hl 5 rfl) ?_
        refine lv_if_eq (tgt := 100) hx hb dX7_mark_91 (by decide) (fun c3 => ?_) (fun c3 => ?_)
        · have h := zip c3 h
          exact t_X7_mark_100 C0 N  h hW hS (lv_sub hl [0, 1, 2, 3, 4] rfl)
        · have h := zin c3 h
          refine lv_aload_n hx hb dX7_mark_94 rfl (lv_at hl 0 rfl) ?_
          refine lv_iconst (v := 3) hx hb dX7_mark_95 (by decide) ?_
          obtain ⟨q4, M6, e5, h⟩ := zbp_some h
          obtain ⟨g7, h⟩ := zg_some h
          refine z_calli hS (va_runV (As := [.int (3 : Int32)]) (rest := []) ⟨hx, hb, hml, hown, hts⟩ (m_X7_fails l hL N e5 H.size) (cwV 1 hts gX7_mark_X7_fails rfl rfl rfl (by decide +kernel) ⟨Nat.le_of_ble_eq_true rfl, Nat.le_of_ble_eq_true rfl⟩) (z_preV (q := (RX7, TX7, 20)) hK hL hE hW hS (zK_of g7) (by decide) rfl [.int (3 : Int32)]) rfl rfl hl.1 rfl (lv_room (Nat.le_of_ble_eq_true rfl)) dX7_mark_96 ⟨Nat.le_of_ble_eq_true rfl, Nat.le_of_ble_eq_true rfl⟩) (fun H locs hW hS => ?_)
          exact z_iret hx hb hr hlocks hW hS (congrArg Prod.fst (Option.some.inj h)) (congrArg Prod.snd (Option.some.inj h)) dX7_mark_99
    · have h := zin c1 h
      refine lv_iload hx hb dX7_mark_42 (lv_at hl 5 rfl) ?_
      refine lv_if_ne (tgt := 70) hx hb dX7_mark_44 (by decide) (fun c8 => ?_) (fun c8 => ?_)
      · have h := zin c8 h
        exact t_X7_mark_70 C0 N (fun h _ _ _ hW hS hl => ih h hW hS hl) h hW hS (lv_sub hl [0, 1, 2, 3, 4, 6] rfl)
      · have h := zip c8 h
        refine lv_iload hx hb dX7_mark_47 (lv_at hl 6 rfl) ?_
        refine lv_iload_n hx hb dX7_mark_49 rfl (lv_at hl 2 rfl) ?_
        refine lv_icmp_eq (tgt := 74) hx hb dX7_mark_50 (by decide) (fun c9 => ?_) (fun c9 => ?_)
        · have h := zip c9 h
          exact t_X7_mark_74 C0 N (fun h _ _ _ hW hS hl => ih h hW hS hl) h hW hS (lv_sub hl [0, 1, 2, 3, 4, 6] rfl)
        · have h := zin c9 h
          refine lv_aload_n hx hb dX7_mark_53 rfl (lv_at hl 0 rfl) ?_
          obtain ⟨g10, h⟩ := zg_some h
          obtain ⟨b11, e12, h⟩ := zb_some h
          refine z_get (own := RX7) (C := RX7) (T := TX7) (N := 20) (ci := 7) hx hb hts hinX7 hown hK hL hW 3 (zK_of g10) rfl (by decide) (by decide) rfl (hts (.fieldLink RX7 16 "ArcLightModel" "mark" "[I") (by decide +kernel)) (v := .ref (ad b11)) (zhvR e12 rfl) dX7_mark_54 ?_
          refine lv_aload_n hx hb dX7_mark_57 rfl (lv_at hl 0 rfl) ?_
          refine lv_iload_n hx hb dX7_mark_58 rfl (lv_at hl 1 rfl) ?_
          refine lv_iload hx hb dX7_mark_59 (lv_at hl 6 rfl) ?_
          refine lv_iload_n hx hb dX7_mark_61 rfl (lv_at hl 3 rfl) ?_
          obtain ⟨q13, e14, h⟩ := zb_some h
          refine z_calli hS (va_runV (As := [.int x1, .int x6, .int x3]) (rest := [.ref (ad b11)]) ⟨hx, hb, hml, hown, hts⟩ (m_X7_arc l (M := M) hL N e14 H.size) (cwV 3 hts gX7_mark_X7_arc rfl rfl rfl (by decide +kernel) ⟨Nat.le_of_ble_eq_true rfl, Nat.le_of_ble_eq_true rfl⟩) (z_preV (q := (RX7, TX7, 20)) hK hL hE hW hS (zK_of g10) (by decide) rfl [.int x1, .int x6, .int x3]) rfl rfl hl.1 rfl (lv_room (Nat.le_of_ble_eq_true rfl)) dX7_mark_62 ⟨Nat.le_of_ble_eq_true rfl, Nat.le_of_ble_eq_true rfl⟩) (fun H locs hW hS => ?_)
          obtain ⟨g15, h⟩ := zg_some h
          refine z_iald hx hb hK hL hW g15 dX7_mark_65 ?_
          refine lv_iconst (v := 1) hx hb dX7_mark_66 (by decide) ?_
          refine lv_icmp_ne (tgt := 74) hx hb dX7_mark_67 (by decide) (fun c16 => ?_) (fun c16 => ?_)
          · have h := zin c16 h
            exact t_X7_mark_74 C0 N (fun h _ _ _ hW hS hl => ih h hW hS hl) h hW hS (lv_sub hl [0, 1, 2, 3, 4, 6] rfl)
          · have h := zip c16 h
            exact t_X7_mark_70 C0 N (fun h _ _ _ hW hS hl => ih h hW hS hl) h hW hS (lv_sub hl [0, 1, 2, 3, 4, 6] rfl)
def f_X7_mark_23 (N : Nat) (K len : Nat → Nat) (x0 : Nat) (M : ZM) : Option (Int32 × ZM) :=
zbp (f_X7_fails N K len x0 (2 : Int32) M) fun q1 M3 => (
zg (K x0 == 8) (
some (q1, M3)))
set_option maxRecDepth 100000 in
set_option maxHeartbeats 4000000 in
theorem t_X7_mark_23 {p : Program} {l : Launch} {e : Env} {s : State} {m : MethodId} {args : Array Value} {below : List Frame} {meth : Method} {c : Code} {D : va_G} {cy : Nat → ClassId} {ad : Nat → Nat} {L : List Nat} {K len : Nat → Nat} (C0 : zCx p s m c meth args cX7_mark 7 wsX7_mark RX7 (some .int) D cy ad L K) (N : Nat) {x0 : Nat} {M : ZM} {r : Int32} {Mr : ZM} (h : f_X7_mark_23 N K len x0 M = some (r, Mr)) {H : Heap} {locs : List Loc} {ls : Array Slot} (hW : zWd D cy ad L K len M H) (hS : va_S (zA ad L s.heap.size) s.heap H locs) (hl : lv_has ls 7 [(0, .ref (ad x0))]) : W p l e (headSpec wsX7_mark ({ frames := 3, cells := 0, slots := 0, locals := 66 } : Room)).room s m args below meth c H locs 0 0 (MQ below (zQi D cy ad L K len r Mr s.heap.size) args s 0 0 (zA ad L s.heap.size)) (F0 m 23 ls []) := by
  obtain ⟨hx, hb, hr, hml, hown, hts, hlocks, hK, hL, hE⟩ := id C0
  unfold f_X7_mark_23 at h
  refine lv_aload_n hx hb dX7_mark_23 rfl (lv_at hl 0 rfl) ?_
  refine lv_iconst (v := 2) hx hb dX7_mark_24 (by decide) ?_
  obtain ⟨q1, M3, e2, h⟩ := zbp_some h
  obtain ⟨g4, h⟩ := zg_some h
  refine z_calli hS (va_runV (As := [.int (2 : Int32)]) (rest := []) ⟨hx, hb, hml, hown, hts⟩ (m_X7_fails l hL N e2 H.size) (cwV 1 hts gX7_mark_X7_fails rfl rfl rfl (by decide +kernel) ⟨Nat.le_of_ble_eq_true rfl, Nat.le_of_ble_eq_true rfl⟩) (z_preV (q := (RX7, TX7, 20)) hK hL hE hW hS (zK_of g4) (by decide) rfl [.int (2 : Int32)]) rfl rfl hl.1 rfl (lv_room (Nat.le_of_ble_eq_true rfl)) dX7_mark_25 ⟨Nat.le_of_ble_eq_true rfl, Nat.le_of_ble_eq_true rfl⟩) (fun H locs hW hS => ?_)
  exact z_iret hx hb hr hlocks hW hS (congrArg Prod.fst (Option.some.inj h)) (congrArg Prod.snd (Option.some.inj h)) dX7_mark_28
def f_X7_mark_0 (N : Nat) (K len : Nat → Nat) (x0 : Nat) (x1 : Int32) (x2 : Int32) (x3 : Int32) (x4 : Int32) (M : ZM) : Option (Int32 × ZM) :=
zbp (f_X7_asksArc N K len x0 x1 x2 x3 M) fun q1 M3 => (
zg (K x0 == 8) (
(if q1 = 0 then
some ((0 : Int32), M3)
else
(if x4 < 0 then
f_X7_mark_23 N K len  x0 M3
else
(if x4 ≤ (2 : Int32) then
f_X7_mark_35 N K len  N x0 x1 x2 x3 x4 (0 : Int32) (0 : Int32) M3
else
f_X7_mark_23 N K len  x0 M3)))))
set_option maxRecDepth 100000 in
set_option maxHeartbeats 4000000 in
theorem t_X7_mark_0 {p : Program} {l : Launch} {e : Env} {s : State} {m : MethodId} {args : Array Value} {below : List Frame} {meth : Method} {c : Code} {D : va_G} {cy : Nat → ClassId} {ad : Nat → Nat} {L : List Nat} {K len : Nat → Nat} (C0 : zCx p s m c meth args cX7_mark 7 wsX7_mark RX7 (some .int) D cy ad L K) (N : Nat) {x0 : Nat} {x1 : Int32} {x2 : Int32} {x3 : Int32} {x4 : Int32} {M : ZM} {r : Int32} {Mr : ZM} (h : f_X7_mark_0 N K len x0 x1 x2 x3 x4 M = some (r, Mr)) {H : Heap} {locs : List Loc} {ls : Array Slot} (hW : zWd D cy ad L K len M H) (hS : va_S (zA ad L s.heap.size) s.heap H locs) (hl : lv_has ls 7 [(0, .ref (ad x0)), (1, .int x1), (2, .int x2), (3, .int x3), (4, .int x4)]) : W p l e (headSpec wsX7_mark ({ frames := 3, cells := 0, slots := 0, locals := 66 } : Room)).room s m args below meth c H locs 0 0 (MQ below (zQi D cy ad L K len r Mr s.heap.size) args s 0 0 (zA ad L s.heap.size)) (F0 m 0 ls []) := by
  obtain ⟨hx, hb, hr, hml, hown, hts, hlocks, hK, hL, hE⟩ := id C0
  unfold f_X7_mark_0 at h
  refine lv_aload_n hx hb dX7_mark_0 rfl (lv_at hl 0 rfl) ?_
  refine lv_iload_n hx hb dX7_mark_1 rfl (lv_at hl 1 rfl) ?_
  refine lv_iload_n hx hb dX7_mark_2 rfl (lv_at hl 2 rfl) ?_
  refine lv_iload_n hx hb dX7_mark_3 rfl (lv_at hl 3 rfl) ?_
  obtain ⟨q1, M3, e2, h⟩ := zbp_some h
  obtain ⟨g4, h⟩ := zg_some h
  refine z_calli hS (va_runV (As := [.int x1, .int x2, .int x3]) (rest := []) ⟨hx, hb, hml, hown, hts⟩ (m_X7_asksArc l hL N e2 H.size) (cwV 3 hts gX7_mark_X7_asksArc rfl rfl rfl (by decide +kernel) ⟨Nat.le_of_ble_eq_true rfl, Nat.le_of_ble_eq_true rfl⟩) (z_preV (q := (RX7, TX7, 20)) hK hL hE hW hS (zK_of g4) (by decide) rfl [.int x1, .int x2, .int x3]) rfl rfl hl.1 rfl (lv_room (Nat.le_of_ble_eq_true rfl)) dX7_mark_4 ⟨Nat.le_of_ble_eq_true rfl, Nat.le_of_ble_eq_true rfl⟩) (fun H locs hW hS => ?_)
  refine lv_if_ne (tgt := 12) hx hb dX7_mark_7 (by decide) (fun c5 => ?_) (fun c5 => ?_)
  · have h := zin c5 h
    refine lv_iload hx hb dX7_mark_12 (lv_at hl 4 rfl) ?_
    refine lv_if_lt (tgt := 23) hx hb dX7_mark_14 (by decide) (fun c6 => ?_) (fun c6 => ?_)
    · have h := zip c6 h
      exact t_X7_mark_23 C0 N  h hW hS (lv_sub hl [0] rfl)
    · have h := zin c6 h
      refine lv_iload hx hb dX7_mark_17 (lv_at hl 4 rfl) ?_
      refine lv_iconst (v := 2) hx hb dX7_mark_19 (by decide) ?_
      refine lv_icmp_le (tgt := 29) hx hb dX7_mark_20 (by decide) (fun c7 => ?_) (fun c7 => ?_)
      · have h := zip c7 h
        refine lv_iconst (v := 0) hx hb dX7_mark_29 (by decide) ?_
        refine lv_istore (lv' := [(5, .int (0 : Int32)), (0, .ref (ad x0)), (1, .int x1), (2, .int x2), (3, .int x3), (4, .int x4)]) hx hb dX7_mark_30 hl (by decide) rfl (fun ls hl => ?_)
        refine lv_iconst (v := 0) hx hb dX7_mark_32 (by decide) ?_
        refine lv_istore (lv' := [(6, .int (0 : Int32)), (5, .int (0 : Int32)), (0, .ref (ad x0)), (1, .int x1), (2, .int x2), (3, .int x3), (4, .int x4)]) hx hb dX7_mark_33 hl (by decide) rfl (fun ls hl => ?_)
        exact t_X7_mark_35 C0 N  N h hW hS (lv_sub hl [2, 3, 4, 5, 6, 1, 0] rfl)
      · have h := zin c7 h
        exact t_X7_mark_23 C0 N  h hW hS (lv_sub hl [0] rfl)
  · have h := zip c5 h
    refine lv_iconst (v := 0) hx hb dX7_mark_10 (by decide) ?_
    exact z_iret hx hb hr hlocks hW hS (congrArg Prod.fst (Option.some.inj h)) (congrArg Prod.snd (Option.some.inj h)) dX7_mark_11
def f_X7_mark (N : Nat) (K len : Nat → Nat) (a0 : Nat) (a1 : Int32) (a2 : Int32) (a3 : Int32) (a4 : Int32) (M : ZM) : Option (Int32 × ZM) := f_X7_mark_0 N K len a0 a1 a2 a3 a4 M
set_option maxRecDepth 100000 in
set_option maxHeartbeats 4000000 in
theorem m_X7_mark (l : Launch) {D : va_G} {cy : Nat → ClassId} {ad : Nat → Nat} {L : List Nat} {K len : Nat → Nat} (hL : zSh ad L K) (N : Nat) {a0 : Nat} {a1 : Int32} {a2 : Int32} {a3 : Int32} {a4 : Int32} {M : ZM} {r : Int32} {Mr : ZM} (h : f_X7_mark N K len a0 a1 a2 a3 a4 M = some (r, Mr)) (sz : Nat) : Met l yX7_mark wsX7_mark ({ frames := 3, cells := 0, slots := 0, locals := 66 } : Room) (zPre D cy ad L K len sz [.ref (ad a0), .int a1, .int a2, .int a3, .int a4] M) (zQi D cy ad L K len r Mr sz) 0 0 (zA ad L sz) :=
  z_entry (Qf := fun sz => zQi D cy ad L K len r Mr sz) (av := [.ref (ad a0), .int a1, .int a2, .int a3, .int a4]) (by decide) rfl rfl hL (Nat.le_of_ble_eq_true rfl) (fun p e s m args below meth c C0 H locs ls hW hS hl => t_X7_mark_0 C0 N h hW hS (lv_sub hl [0, 1, 2, 3, 4] rfl))

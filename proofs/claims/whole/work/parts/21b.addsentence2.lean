/-! The law's addSentence: a new sentence, or the exception is caught. -/
set_option maxRecDepth 100000 in
set_option maxHeartbeats 4000000 in
theorem m_L_addSentence_ok (l : Launch) {D : va_G} {cy : Nat → ClassId} {ad : Nat → Nat} {L : List Nat} {K len : Nat → Nat} (hL : zSh ad L K) (N : Nat) {x0 x1 b r0 : Nat} {M M1 : ZM} (hK0 : K x0 = 7) (hc0 : ¬ zI M x0 1 < 0) (hall : zR M x0 0 = some b) (hKb : K b = 14) (hlt : zI M x0 1 < Int32.ofNat (len b))
    (h1 : f_X2_init N (va_up K r0 3) len r0 (zclr M r0) = some M1) (hKx : (kA_X2_init (va_up K r0 3) r0) x0 = 7) (hKr : (kA_X2_init (va_up K r0 3) r0) r0 = 3) (hI : zI (zsR M1 b (zI M x0 1).toNatClampNeg (some r0)) x0 1 = zI M x0 1) (hok : zok (kA_X2_init (va_up K r0 3) r0) (lA_X2_init len r0) b 14 (zI M x0 1) = true) (hok1 : zok (kA_X2_init (va_up K r0 3) r0) (lA_X2_init len r0) x1 12 (0 : Int32) = true)
    (sz : Nat) (had : ∀ i, i < 11 → ad (r0 + i) = sz + i) : Met l yL_addSentence wsL_addSentence ({ frames := 5, cells := 11, slots := 74, locals := 140 } : Room) (zPre D cy ad L K len sz [.ref (ad x0), .ref (ad x1)] M) (zQs D cy ad L r0 11 (kA_X2_init (va_up K r0 3) r0) (lA_X2_init len r0) 0 (zsJ (zsI (zsR M1 b (zI M x0 1).toNatClampNeg (some r0)) x0 1 (zI M x0 1 + 1)) x1 (0 : Int32).toNatClampNeg (zI M x0 1).toInt64) sz) 11 74 (zA ad L sz) := by
  refine va_MetW (cc := cL_addSentence) (maxL := 3) (ret := some .int) (hh := [(0, 8, 11, 13)]) (by decide) rfl ?_
  intro p e s m args below meth c s₁ B hml hv
  obtain ⟨rfl, hsz, hW, hK, hE⟩ := hv
  subst hsz
  have hx := B.exec
  have hb := B.bytes
  have hr := B.returns
  have hown : s.vm.findClass RL = some m.cls := findClass_of_methodNamed B.named
  have hts := atoms_spec (ws := wsL_addSentence) B.pre
  have hlocks := B.notSynchronized
  have hS : va_S (zA ad L s.heap.size) s.heap s.heap [] := va_S.rf
  have hl := lv_entry ([.ref (ad x0), .ref (ad x1)]) (n := 3) (Nat.le_of_ble_eq_true rfl)
  rw [lg_entry_eq]
  generalize (lg_sl ([.ref (ad x0), .ref (ad x1)]) ++ List.replicate (3 - (lg_sl ([.ref (ad x0), .ref (ad x1)])).length) Slot.unset).toArray = ls at hl ⊢
  have hl : lv_has ls 3 [(0, .ref (ad x0)), (1, .ref (ad x1))] := hl
  refine lv_aload_n hx hb dL_addSentence_0 rfl (lv_at hl 1 rfl) ?_
  refine lv_iconst (v := 0) hx hb dL_addSentence_1 (by decide) ?_
  refine lv_aload_n hx hb dL_addSentence_2 rfl (lv_at hl 0 rfl) ?_
  refine z_calls (lo := r0) (n := 11) hS (va_runV (As := []) (rest := [.int (0 : Int32), .ref (ad x1)]) ⟨hx, hb, hml, hown, hts⟩ (m_X6_addSentence_ok l hL N hK0 hc0 hall hKb hlt h1 hKx hKr hI hok s.heap.size had) (cwV 0 hts gL_addSentence_X6_addSentence rfl rfl rfl (by decide +kernel) ⟨by decide +kernel, by decide +kernel⟩) (z_preV (q := (RX6, TX6, 7)) hK hL hE hW hS hK0 (by decide) rfl []) rfl rfl hl.1 rfl (lv_room (Nat.le_of_ble_eq_true rfl)) dL_addSentence_3 ⟨by decide +kernel, by decide +kernel⟩) (fun L1 H locs hm hL hW hS => ?_)
  refine W.widen (k := 11) (n := 74) (by omega) (by omega) ?_
  refine lv_i2l hx hb dL_addSentence_6 rfl ?_
  refine z_last hx hb hK hL hW hS hok1 dL_addSentence_7 (fun H locs hW hS => ?_)
  refine lv_goto (tgt := 14) hx hb dL_addSentence_8 (by decide) ?_
  refine lv_iconst (v := 0) hx hb dL_addSentence_14 (by decide) ?_
  exact z_sret hx hb hr hlocks hm had hL hW hS rfl rfl dL_addSentence_15
set_option maxRecDepth 100000 in
set_option maxHeartbeats 4000000 in
theorem m_L_addSentence_no (l : Launch) (hlt : l.stackTraces = false) {D : va_G} {cy : Nat → ClassId} {ad : Nat → Nat} {L : List Nat} {K len : Nat → Nat} (hL : zSh ad L K) {x0 x1 b : Nat} {M : ZM} (hK0 : K x0 = 7) (hc0 : ¬ zI M x0 1 < 0) (hall : zR M x0 0 = some b) (hKb : K b = 14) (hge : ¬ zI M x0 1 < Int32.ofNat (len b)) (sz : Nat) : Met l yL_addSentence wsL_addSentence ({ frames := 7, cells := 1, slots := 6, locals := 110 } : Room) (zPre D cy ad L K len sz [.ref (ad x0), .ref (ad x1)] M) (zQi D cy ad L K len 1 M sz) 1 6 (zA ad L sz) := by
  refine z_wentry (hh := [(0, 8, 11, 13)]) (Qf := fun sz => zQi D cy ad L K len 1 M sz) (av := [.ref (ad x0), .ref (ad x1)]) (by decide) rfl rfl hL (Nat.le_of_ble_eq_true rfl) (fun p e s m args below meth c C0 H locs ls hW hS hl => ?_)
  obtain ⟨⟨hx, hb, hr, hml, hown, hts, hlocks, hK, hL, hE⟩, htb⟩ := id C0
  refine lv_aload_n hx hb dL_addSentence_0 rfl (lv_at hl 1 rfl) ?_
  refine lv_iconst (v := 0) hx hb dL_addSentence_1 (by decide) ?_
  refine lv_aload_n hx hb dL_addSentence_2 rfl (lv_at hl 0 rfl) ?_
  refine z_xcalli hS (vx_runV (As := []) (rest := [.int (0 : Int32), .ref (ad x1)]) ⟨hx, hb, hml, hown, hts⟩ (m_X6_addSentence_no l hlt hL (o := .inl 3) hK0 hc0 hall hKb hge rfl H.size) (cwV 0 hts gL_addSentence_X6_addSentence rfl rfl rfl (by decide +kernel) ⟨Nat.le_of_ble_eq_true rfl, Nat.le_of_ble_eq_true rfl⟩) (z_preV (q := (RX6, TX6, 7)) hK hL hE hW hS hK0 (by decide) rfl []) rfl rfl hl.1 rfl (lv_room (Nat.le_of_ble_eq_true rfl)) dL_addSentence_3 ⟨Nat.le_of_ble_eq_true rfl, Nat.le_of_ble_eq_true rfl⟩) (fun k hk H locs q9 ce hW hS hce hcv hcl => ?_) (fun r5 hk H locs hW hS => ?_)
  · cases hk
    refine vx_catch (own := RL) (name := "java/lang/IllegalStateException") (E := "java/lang/IllegalStateException") hown [] ⟨0, 8, 11, 13⟩ [] htb (fun z hz => by simp at hz) (by decide) (by decide) (hts (.classLink RL 13 "java/lang/IllegalStateException") (by decide +kernel)) (va_Nw.use rfl (hE.1 (.castable "java/lang/IllegalStateException" "java/lang/IllegalStateException") (by decide +kernel))) hce hcv hcl ?_
    refine lv_astore_n (lv' := [(2, .ref q9), (0, .ref (ad x0)), (1, .ref (ad x1))]) hx hb dL_addSentence_11 rfl hl (by decide) rfl (fun ls hl => ?_)
    refine lv_iconst (v := 1) hx hb dL_addSentence_12 (by decide) ?_
    refine W.widen (k := 1) (n := 6) (Nat.le_of_ble_eq_true rfl) (Nat.le_of_ble_eq_true rfl) ?_
    exact z_iret hx hb hr hlocks hW hS rfl rfl dL_addSentence_13
  · cases hk

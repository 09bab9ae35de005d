/-! addSentence: a new sentence at the places r0 .. r0 + 10, or the exception. -/
/-- an int is answered, n places from lo on are new -/
def zQs (D : va_G) (cy : Nat → ClassId) (ad : Nat → Nat) (L : List Nat) (lo n : Nat) (K' len' : Nat → Nat) (v : Int32) (M' : ZM) (sz : Nat) : Array Value → State → Outcome → State → Prop := fun _ st oc t =>
  oc = .returned (some (.int v)) ∧ (∃ L', (∀ a, a ∈ L' ↔ a ∈ L ∨ (lo ≤ a ∧ a < lo + n)) ∧ zSh ad L' K' ∧ zWd D cy ad L' K' len' M' t.heap) ∧ va_F (zA ad L sz) st t
section ZS
variable {p : Program} {l : Launch} {e : Env} {R : Room} {s : State} {m : MethodId} {args : Array Value} {below : List Frame} {meth : Method} {c : Code} {H : Heap} {locs : List Loc} {cells slots : Nat} {Q : State → Prop}
variable {cc : ByteArray} {pc : Nat} {ls : Array Slot} {rest : List Value} {D : va_G} {cy : Nat → ClassId} {ad : Nat → Nat} {L : List Nat} {K len : Nat → Nat} {a : Nat} {M : ZM}
theorem z_sret {lo n : Nat} {L1 : List Nat} {K' len' : Nat → Nat} {M' : ZM} (hx : p.tables.exec = Jvm.exec) (hb : c.code = cc) (hr : meth.sig.returnType = some .int) (hlocks : meth.locks = false) (hm : ∀ a, a ∈ L1 ↔ a ∈ L ∨ (lo ≤ a ∧ a < lo + n)) (had : ∀ i, i < n → ad (lo + i) = s.heap.size + i) (hL : zSh ad L1 K') (hW : zWd D cy ad L1 K' len' M H) (hS : va_S (zA ad L1 s.heap.size) s.heap H locs) (hM : M = M') {v r : Int32} (hv : v = r) (hdg : decode cc pc = .ok (.ireturn, 1)) : W p l e R s m args below meth c H locs cells slots (MQ below (zQs D cy ad L lo n K' len' r M' s.heap.size) args s cells slots (zA ad L s.heap.size)) (F0 m pc ls [.int v]) := by
  subst hM; subst hv
  have hS2 : va_S (zA ad L s.heap.size) s.heap H locs := by
    have hb2 := zA_mem hm had (Nat.le_refl n)
    refine ⟨hS.1, fun q h1 h2 => hS.2.1 q h1 (fun z => h2 (hb2 q z)), fun q hq => hb2 _ (hS.2.2 q hq)⟩
  exact W.iret hx hb hr (fun t ht _ => ⟨rfl, ⟨L1, hm, hL, (congrArg (zWd D cy ad L1 K' len' M) ht).mpr hW⟩, hS2.F ht⟩) hS2.2.2 hdg hlocks
theorem z_calls {lo n : Nat} {K' len' : Nat → Nat} {M' : ZM} {v : Int32} (hS : va_S (zA ad L s.heap.size) s.heap H locs) {mc ms : Nat} {st0 : List Value} {av : Array Value} (hr : va_Run p l e R s m args below meth c H locs cells slots mc ms (F0 m pc ls st0) rest (zQs D cy ad L lo n K' len' v M' H.size av) (zA ad L H.size))
    (kk : ∀ (L1 : List Nat) (H : Heap) (locs : List Loc), (∀ a, a ∈ L1 ↔ a ∈ L ∨ (lo ≤ a ∧ a < lo + n)) → zSh ad L1 K' → zWd D cy ad L1 K' len' M' H → va_S (zA ad L1 s.heap.size) s.heap H locs → W p l e R s m args below meth c H locs (cells + mc) (slots + ms) Q (F0 m (pc + 3) ls (.int v :: rest))) : W p l e R s m args below meth c H locs cells slots Q (F0 m pc ls st0) := by
  intro T hT X
  obtain ⟨v9, st₀, t, T', L9, h0, X', hL9, e1, e2, ⟨hv, ⟨L1, hm, hsh, hw⟩, hz, hk⟩, st⟩ := hr T hT X
  cases hv
  rw [h0] at hz hk
  have hup : ∀ q, zA ad L s.heap.size q → zA ad L1 s.heap.size q := fun q h => h.elim (fun ⟨a, ha, e⟩ => Or.inl ⟨a, (hm a).mpr (Or.inl ha), e⟩) Or.inr
  obtain ⟨t2, a1, b1⟩ := kk L1 T'.heap (locs ++ L9) hm hsh (by rw [e1]; exact hw) ⟨Nat.le_trans hS.1 (by rw [e1]; exact hz), fun q h1 h2 => by
      rw [e1, hk q (Nat.lt_of_lt_of_le h1 hS.1) (fun z => h2 (hup q (zA_mono hS.1 q z)))]
      exact hS.2.1 q h1 (fun z => h2 (hup q z)), fun q hq => by
      rcases List.mem_append.mp hq with h | h
      · exact hup _ (hS.2.2 q h)
      · exact hup _ (zA_mono hS.1 _ (hL9 q h))⟩ T' rfl X'
  exact ⟨t2, st t2 a1, b1⟩
/-- a sentence into the row of sentences -/
theorem z_aast (hx : p.tables.exec = Jvm.exec) (hb : c.code = cc) (hK : va_K D vwCl (ztys cy) s) (hL : zSh ad L K) (hW : zWd D cy ad L K len M H) (hS : va_S (zA ad L s.heap.size) s.heap H locs) {i : Int32} {v : Nat} (h : zok K len a 14 i = true) (hv : K v = 3) (hdg : decode cc pc = .ok (.aastore, 1))
    (kk : ∀ (H : Heap) (locs : List Loc), zWd D cy ad L K len (zsR M a i.toNatClampNeg (some v)) H → va_S (zA ad L s.heap.size) s.heap H locs → W p l e R s m args below meth c H locs cells slots Q (F0 m (pc + 1) ls rest)) : W p l e R s m args below meth c H locs cells slots Q (F0 m pc ls (.ref (ad v) :: .int i :: .ref (ad a) :: rest)) := by
  obtain ⟨hKa, hin⟩ := zok_in h
  have ha : a ∈ L := hL.2.1 a (by omega)
  have hD : va_D (zA ad L s.heap.size) (zpl ad L (zent cy ad K len M)) := zpl_D hL _
  obtain ⟨q0, hq, he⟩ := zpl_get (E := zent cy ad K len M) ha
  obtain ⟨q1, -, he1⟩ := zpl_get (E := zent cy ad K len M) (hL.2.1 v (by omega))
  have he2 := he
  rw [zent_S hKa] at he2
  rw [zent_obj (ci := 2) hv (by decide)] at he1
  refine va_astq (r := (RX2, TX2, 4)) hx hb hK (show va_P D vwCl (zpl ad L (zent cy ad K len M)) H from hW) hD hS q0 3 q1 2 he2 rfl he1 rfl hin hdg (fun H1 locs1 hP1 _ hS1 => kk H1 locs1 ?_ hS1)
  rw [zpl_set hL.1 hq] at hP1
  show va_P D vwCl (zpl ad L (zent cy ad K len _)) H1
  rw [← zpl_congr (f := va_up (zent cy ad K len M) a (.inl (cy 3, len a, .inr (.inr (.inr (.inr (va_up (fun j => (zR M a j).map ad) i.toNatClampNeg (some (ad v))))))))) (zup_at (M' := zsR M a i.toNatClampNeg (some v)) (by
    rw [zent_S hKa, show (fun j => (zR (zsR M a i.toNatClampNeg (some v)) a j).map ad) = va_up (fun j => (zR M a j).map ad) i.toNatClampNeg (some (ad v)) from funext fun j => by
      by_cases hj : j = i.toNatClampNeg
      · subst hj
        simp [va_up, zR, zsR, zup]
      · simp [va_up, zR, zsR, zup, hj]]) zfar_R)]
  exact hP1
end ZS
set_option maxRecDepth 100000 in
set_option maxHeartbeats 4000000 in
/-- there is room for one more -/
theorem m_X6_addSentence_ok (l : Launch) {D : va_G} {cy : Nat → ClassId} {ad : Nat → Nat} {L : List Nat} {K len : Nat → Nat} (hL : zSh ad L K) (N : Nat) {x0 b r0 : Nat} {M M1 : ZM} (hK0 : K x0 = 7) (hc0 : ¬ zI M x0 1 < 0) (hall : zR M x0 0 = some b) (hKb : K b = 14) (hlt : zI M x0 1 < Int32.ofNat (len b))
    (h1 : f_X2_init N (va_up K r0 3) len r0 (zclr M r0) = some M1) (hKx : kA_X2_init (va_up K r0 3) r0 x0 = 7) (hKr : kA_X2_init (va_up K r0 3) r0 r0 = 3) (hI : zI (zsR M1 b (zI M x0 1).toNatClampNeg (some r0)) x0 1 = zI M x0 1) (hok : zok (kA_X2_init (va_up K r0 3) r0) (lA_X2_init len r0) b 14 (zI M x0 1) = true)
    (sz : Nat) (had : ∀ i, i < 11 → ad (r0 + i) = sz + i) : Met l yX6_addSentence wsX6_addSentence ({ frames := 4, cells := 11, slots := 74, locals := 120 } : Room) (zPre D cy ad L K len sz [.ref (ad x0)] M) (zQs D cy ad L r0 11 (kA_X2_init (va_up K r0 3) r0) (lA_X2_init len r0) (zI M x0 1) (zsI (zsR M1 b (zI M x0 1).toNatClampNeg (some r0)) x0 1 (zI M x0 1 + 1)) sz) 11 74 (zA ad L sz) := by
  refine Met.ofW (cc := cX6_addSentence) (maxL := 1) (ret := some .int) (by decide) rfl ?_
  intro p e s m args below meth c s₁ B hml hv
  obtain ⟨rfl, hsz, hW, hK, hE⟩ := hv
  subst hsz
  have hx := B.exec
  have hb := B.bytes
  have hr := B.returns
  have hown : s.vm.findClass RX6 = some m.cls := findClass_of_methodNamed B.named
  have hts := atoms_spec (ws := wsX6_addSentence) B.pre
  have hlocks := B.notSynchronized
  have hS : va_S (zA ad L s.heap.size) s.heap s.heap [] := va_S.rf
  have hl := lv_entry ([.ref (ad x0)]) (n := 1) (Nat.le_of_ble_eq_true rfl)
  rw [lg_entry_eq]
  generalize (lg_sl ([.ref (ad x0)]) ++ List.replicate (1 - (lg_sl ([.ref (ad x0)])).length) Slot.unset).toArray = ls at hl ⊢
  have hl : lv_has ls 1 [(0, .ref (ad x0))] := hl
  have hinX6 : ∀ w ∈ wsX60, w ∈ wsX6_addSentence := by decide +kernel
  have hinX2 : ∀ w ∈ wsX20, w ∈ wsX6_addSentence := by decide +kernel
  refine lv_aload_n hx hb dX6_addSentence_0 rfl (lv_at hl 0 rfl) ?_
  refine z_get (own := RX6) (C := RX6) (T := TX6) (N := 7) (ci := 6) hx hb hts hinX6 hown hK hL hW 1 hK0 rfl (by decide) (by decide) rfl (hts (.fieldLink RX6 15 "ArcLight" "count" "I") (by decide +kernel)) (v := .int (zI M x0 1)) rfl dX6_addSentence_1 ?_
  refine lv_if_lt (tgt := 19) hx hb dX6_addSentence_4 (by decide) (fun c9 => absurd c9 hc0) (fun _ => ?_)
  refine lv_aload_n hx hb dX6_addSentence_7 rfl (lv_at hl 0 rfl) ?_
  refine z_get (own := RX6) (C := RX6) (T := TX6) (N := 7) (ci := 6) hx hb hts hinX6 hown hK hL hW 1 hK0 rfl (by decide) (by decide) rfl (hts (.fieldLink RX6 15 "ArcLight" "count" "I") (by decide +kernel)) (v := .int (zI M x0 1)) rfl dX6_addSentence_8 ?_
  refine lv_aload_n hx hb dX6_addSentence_11 rfl (lv_at hl 0 rfl) ?_
  refine z_get (own := RX6) (C := RX6) (T := TX6) (N := 7) (ci := 6) hx hb hts hinX6 hown hK hL hW 0 hK0 rfl (by decide) (by decide) rfl (hts (.fieldLink RX6 11 "ArcLight" "all" "[LArcLight$Sentence;") (by decide +kernel)) (v := .ref (ad b)) (zhvR hall rfl) dX6_addSentence_12 ?_
  refine z_alen hx hb hK hL hW (by rw [hKb]; decide) dX6_addSentence_15 ?_
  refine lv_icmp_lt (tgt := 29) hx hb dX6_addSentence_16 (by decide) (fun _ => ?_) (fun c9 => absurd hlt c9)
  refine lv_aload_n hx hb dX6_addSentence_29 rfl (lv_at hl 0 rfl) ?_
  refine z_get (own := RX6) (C := RX6) (T := TX6) (N := 7) (ci := 6) hx hb hts hinX6 hown hK hL hW 0 hK0 rfl (by decide) (by decide) rfl (hts (.fieldLink RX6 11 "ArcLight" "all" "[LArcLight$Sentence;") (by decide +kernel)) (v := .ref (ad b)) (zhvR hall rfl) dX6_addSentence_30 ?_
  refine lv_aload_n hx hb dX6_addSentence_33 rfl (lv_at hl 0 rfl) ?_
  refine z_get (own := RX6) (C := RX6) (T := TX6) (N := 7) (ci := 6) hx hb hts hinX6 hown hK hL hW 1 hK0 rfl (by decide) (by decide) rfl (hts (.fieldLink RX6 15 "ArcLight" "count" "I") (by decide +kernel)) (v := .int (zI M x0 1)) rfl dX6_addSentence_34 ?_
  refine z_new (own := RX6) (C := RX2) (T := TX2) (N := 4) (ci := 2) hx hb hts hinX2 tyX2 tyX2_ok hown (hts (.classLink RX6 9 RX2) (by decide +kernel)) (hts (.instantiable RX2 4) (by decide +kernel)) (hts (.initialized RX2) (by decide +kernel)) hK hL hW hS r0 (by have h9 := had 0 (by decide); exact h9) rfl (by decide) (zbornX2 _ _) (by decide +kernel) (by decide +kernel) dX6_addSentence_37 (fun H _ _ hL hW hS => ?_)
  have hm : ∀ a, a ∈ L ++ [r0] ↔ a ∈ L ∨ (r0 ≤ a ∧ a < r0 + 1) := zmem_1 (lo := r0) (k := 0) zmem_0
  generalize L ++ [r0] = L1 at hm hL hW hS ⊢
  refine W.widen (k := 1) (n := 4) (by omega) (by omega) ?_
  refine lv_dup hx hb dX6_addSentence_40 rfl ?_
  refine z_size (by have h9 := zWd_lt hW ((hm r0).mpr (Or.inr ⟨by omega, by omega⟩)); have h8 := had 0 (by decide); have h7 : ad r0 = s.heap.size + 0 := h8; omega) (fun hz => ?_)
  have hE1 := zEnv_narrow hE (zA_mem hm had (by decide : 1 ≤ 11))
  refine z_calln (lo := r0 + 1) (n := 10) hS (va_runI (As := []) (rest := [.ref (ad r0), .int (zI M x0 1), .ref (ad b)]) ⟨hx, hb, hml, hown, hts⟩ (m_X2_init l hL N h1 H.size (fun i hi => by have h9 := had (1 + i) (by omega); rw [show r0 + (1 + i) = r0 + 1 + i from by omega] at h9; omega)) (cwI 0 hts gX6_addSentence_X2_init rfl rfl rfl (hts (.initialized RX2) (by decide +kernel)) (hts (.methodLink RX6 61 yX2_init) (by decide +kernel)) (hts (.instanceMethod yX2_init) (by decide +kernel)) rfl (by decide +kernel) ⟨by decide +kernel, by decide +kernel⟩) (z_preS hK hE1 hW hS [.ref (ad r0)]) rfl rfl hl.1 rfl (lv_room (Nat.le_of_ble_eq_true rfl)) dX6_addSentence_41 ⟨by decide +kernel, by decide +kernel⟩) (fun L2 H locs hm2 hL hW hS => ?_)
  have hm := zmem_c (k := 1) hm hm2
  refine W.widen (k := 11) (n := 74) (by omega) (by omega) ?_
  refine z_aast hx hb hK hL hW hS hok hKr dX6_addSentence_44 (fun H locs hW hS => ?_)
  refine lv_aload_n hx hb dX6_addSentence_45 rfl (lv_at hl 0 rfl) ?_
  refine lv_dup hx hb dX6_addSentence_46 rfl ?_
  refine z_get (own := RX6) (C := RX6) (T := TX6) (N := 7) (ci := 6) hx hb hts hinX6 hown hK hL hW 1 hKx rfl (by decide) (by decide) rfl (hts (.fieldLink RX6 15 "ArcLight" "count" "I") (by decide +kernel)) (v := .int (zI M x0 1)) (show some (Value.int (zI (zsR M1 b (zI M x0 1).toNatClampNeg (some r0)) x0 1)) = some (Value.int (zI M x0 1)) from congrArg (fun q => some (Value.int q)) hI) dX6_addSentence_47 ?_
  refine lv_iconst (v := 1) hx hb dX6_addSentence_50 (by decide) ?_
  refine lv_iadd hx hb dX6_addSentence_51 ?_
  refine z_put (own := RX6) (C := RX6) (T := TX6) (N := 7) (ci := 6) (v := .int (zI M x0 1 + 1)) (M' := zsI (zsR M1 b (zI M x0 1).toNatClampNeg (some r0)) x0 1 (zI M x0 1 + 1)) hx hb hts hinX6 tyX6 tyX6_ok nmX6 hown hK hL hW hS 1 hKx rfl (by decide) (by decide) rfl (hts (.fieldLink RX6 15 "ArcLight" "count" "I") (by decide +kernel)) rfl (ty := .int) (by decide +kernel) rfl rfl (Nat.le_of_ble_eq_true rfl) dX6_addSentence_52 (zM_I hKx (by decide) rfl) (fun H locs hW hS => ?_)
  refine lv_aload_n hx hb dX6_addSentence_55 rfl (lv_at hl 0 rfl) ?_
  refine z_get (own := RX6) (C := RX6) (T := TX6) (N := 7) (ci := 6) hx hb hts hinX6 hown hK hL hW 1 hKx rfl (by decide) (by decide) rfl (hts (.fieldLink RX6 15 "ArcLight" "count" "I") (by decide +kernel)) (v := .int (zI M x0 1 + 1)) (show some (Value.int (zI (zsI (zsR M1 b (zI M x0 1).toNatClampNeg (some r0)) x0 1 (zI M x0 1 + 1)) x0 1)) = some (Value.int (zI M x0 1 + 1)) from congrArg (fun q => some (Value.int q)) zup_self) dX6_addSentence_56 ?_
  refine lv_iconst (v := 1) hx hb dX6_addSentence_59 (by decide) ?_
  refine lv_isub hx hb dX6_addSentence_60 ?_
  exact z_sret hx hb hr hlocks hm had hL hW hS rfl (by rw [Int32.add_sub_cancel]) dX6_addSentence_61
set_option maxRecDepth 100000 in
set_option maxHeartbeats 4000000 in
/-- there are 5 sentences -/
theorem m_X6_addSentence_no (l : Launch) (hlt : l.stackTraces = false) {D : va_G} {cy : Nat → ClassId} {ad : Nat → Nat} {L : List Nat} {K len : Nat → Nat} (hL : zSh ad L K) {x0 b : Nat} {M : ZM} {o : Nat ⊕ Int32} (hK0 : K x0 = 7) (hc0 : ¬ zI M x0 1 < 0) (hall : zR M x0 0 = some b) (hKb : K b = 14) (hge : ¬ zI M x0 1 < Int32.ofNat (len b)) (ho : o = .inl 3) (sz : Nat) : vx_Met l yX6_addSentence wsX6_addSentence ({ frames := 6, cells := 1, slots := 6, locals := 90 } : Room) (zPre D cy ad L K len sz [.ref (ad x0)] M) (zY D cy ad L K len zvI o M sz) (zX D cy ad L K len o M sz) 1 6 (zA ad L sz) := by
  refine z_xentry hlt (Qf := fun sz => zY D cy ad L K len zvI o M sz) (Xf := fun sz => zX D cy ad L K len o M sz) (av := [.ref (ad x0)]) (by decide) rfl rfl hL (Nat.le_of_ble_eq_true rfl) (fun p e s m args below meth c C0 H locs ls hW hS hl => ?_)
  obtain ⟨⟨hx, hb, hr, hml, hown, hts, hlocks, hK, hL, hE⟩, hlt, hex⟩ := id C0
  have hinX6 : ∀ w ∈ wsX60, w ∈ wsX6_addSentence := by decide +kernel
  have hl : lv_has ls 1 [(0, .ref (ad x0))] := hl
  refine lv_aload_n hx hb dX6_addSentence_0 rfl (lv_at hl 0 rfl) ?_
  refine z_get (own := RX6) (C := RX6) (T := TX6) (N := 7) (ci := 6) hx hb hts hinX6 hown hK hL hW 1 hK0 rfl (by decide) (by decide) rfl (hts (.fieldLink RX6 15 "ArcLight" "count" "I") (by decide +kernel)) (v := .int (zI M x0 1)) rfl dX6_addSentence_1 ?_
  refine lv_if_lt (tgt := 19) hx hb dX6_addSentence_4 (by decide) (fun c9 => absurd c9 hc0) (fun _ => ?_)
  refine lv_aload_n hx hb dX6_addSentence_7 rfl (lv_at hl 0 rfl) ?_
  refine z_get (own := RX6) (C := RX6) (T := TX6) (N := 7) (ci := 6) hx hb hts hinX6 hown hK hL hW 1 hK0 rfl (by decide) (by decide) rfl (hts (.fieldLink RX6 15 "ArcLight" "count" "I") (by decide +kernel)) (v := .int (zI M x0 1)) rfl dX6_addSentence_8 ?_
  refine lv_aload_n hx hb dX6_addSentence_11 rfl (lv_at hl 0 rfl) ?_
  refine z_get (own := RX6) (C := RX6) (T := TX6) (N := 7) (ci := 6) hx hb hts hinX6 hown hK hL hW 0 hK0 rfl (by decide) (by decide) rfl (hts (.fieldLink RX6 11 "ArcLight" "all" "[LArcLight$Sentence;") (by decide +kernel)) (v := .ref (ad b)) (zhvR hall rfl) dX6_addSentence_12 ?_
  refine z_alen hx hb hK hL hW (by rw [hKb]; decide) dX6_addSentence_15 ?_
  refine lv_icmp_lt (tgt := 29) hx hb dX6_addSentence_16 (by decide) (fun c9 => absurd c9 hge) (fun _ => ?_)
  have hgw : ∀ w ∈ (vx_atS RX6 58 (zexn 3) znames).filter goodWord, w ∈ wsX6_addSentence := by decide +kernel
  exact z_throw (own := RX6) (k := 3) (ik := 54) (is := 56) (ic := 58) (text := "no more sentences can be added") (names := znames) hx hb hlt hown zfit3 znames_fit (hts (.classLink RX6 54 "java/lang/IllegalStateException") (by decide +kernel)) (hts (.initialized "java/lang/IllegalStateException") (by decide +kernel)) (hE.2.2.2.1 (56, "no more sentences can be added") (by decide)) (vx_hat (B := znw) (fun w hw => hts w (hgw w hw)) (by decide +kernel) (znw_use hE.1)) (by decide +kernel) hE hW hS (hl.1.trans hml.symm) dX6_addSentence_19 dX6_addSentence_22 dX6_addSentence_23 dX6_addSentence_25 dX6_addSentence_28 hex ho rfl (Nat.le_of_ble_eq_true rfl) (Nat.le_of_ble_eq_true rfl) (Nat.le_of_ble_eq_true rfl) (Nat.le_of_ble_eq_true rfl) hlocks (Nat.le_of_ble_eq_true rfl) (Nat.le_of_ble_eq_true rfl)

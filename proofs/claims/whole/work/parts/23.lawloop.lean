/-! THE LAW'S LOOP (by program: wip/whole/gen/genlaw.py). -/
theorem zKs_low : ∀ (k a : Nat), a < 128 → zKs k a = zK0 a
  | 0, _, _ => rfl
  | k + 1, a, h => by
    have e : zKs (k + 1) a = zKs k a := by
      show kA_X2_init (va_up (zKs k) (128 + 11 * k) 3) (128 + 11 * k) a = _
      unfold kA_X2_init zmu
      rw [if_neg (by omega), if_neg (by omega), va_up_ne _ _ (by omega), va_up_ne _ _ (by omega), va_up_ne _ _ (by omega)]
    rw [e, zKs_low k a h]
theorem zln_low : ∀ (k a : Nat), a < 128 → zln k a = zl0 a
  | 0, _, _ => rfl
  | k + 1, a, h => by
    have e : zln (k + 1) a = zln k a := by
      show lA_X2_init (zln k) (128 + 11 * k) a = _
      unfold lA_X2_init zmu
      rw [if_neg (by omega), if_neg (by omega), va_up_ne _ _ (by omega), va_up_ne _ _ (by omega)]
    rw [e, zln_low k a h]
theorem zKs_0 (k : Nat) : zKs k 0 = 7 := (zKs_low k 0 (by decide)).trans (by decide +kernel)
theorem zKs_1 (k : Nat) : zKs k 1 = 14 := (zKs_low k 1 (by decide)).trans (by decide +kernel)
theorem zKs_112 (k : Nat) : zKs k 112 = 8 := (zKs_low k 112 (by decide)).trans (by decide +kernel)
theorem zok_126 (k : Nat) : zok (zKs k) (zln k) 126 12 0 = true := by
  unfold zok
  rw [zKs_low k 126 (by decide), zln_low k 126 (by decide)]
  decide +kernel
theorem zok_127 (k : Nat) : zok (zKs k) (zln k) 127 17 0 = true := by
  unfold zok
  rw [zKs_low k 127 (by decide), zln_low k 127 (by decide)]
  decide +kernel
theorem zKs_new (k : Nat) : zKs (k + 1) (128 + 11 * k) = 3 := by
  show kA_X2_init (va_up (zKs k) (128 + 11 * k) 3) (128 + 11 * k) (128 + 11 * k) = _
  unfold kA_X2_init zmu
  rw [if_neg (by omega), if_neg (by omega), va_up_ne _ _ (by omega), va_up_ne _ _ (by omega), va_up_self]
/-- another way of laying the places out, the same on those that there are -/
theorem zfl_ad {ad ad' : Nat → Nat} {M : ZM} {a : Nat} (h : ∀ j r, zR M a j = some r → ad r = ad' r) : ∀ (ts : List Bool) (k : Nat), zfl ad M a k ts = zfl ad' M a k ts
  | [], _ => rfl
  | t :: ts, k => by
    show zfv ad M a k t :: _ = zfv ad' M a k t :: _
    rw [zfl_ad h ts (k + 1)]
    congr 1
    cases t with
    | true => rfl
    | false =>
      unfold zfv
      cases hr : zR M a k with
      | none => rfl
      | some r => simp [h k r hr]
theorem zrow_ad {ad ad' : Nat → Nat} {M : ZM} {a : Nat} (h : ∀ j r, zR M a j = some r → ad r = ad' r) : (fun j => (zR M a j).map ad) = (fun j => (zR M a j).map ad') := funext fun j => by
  cases hr : zR M a j with
  | none => rfl
  | some r => simp [h j r hr]
theorem zWd_ad {D : va_G} {cy : Nat → ClassId} {ad ad' : Nat → Nat} {L : List Nat} {K len : Nat → Nat} {M : ZM} {H : Heap} (ha : ∀ a ∈ L, ad a = ad' a) (hc : ∀ a ∈ L, ∀ j r, zR M a j = some r → r ∈ L) (hW : zWd D cy ad L K len M H) : zWd D cy ad' L K len M H := by
  have e : zpl ad L (zent cy ad K len M) = zpl ad' L (zent cy ad' K len M) := by
    unfold zpl
    refine List.map_congr_left (fun a h => ?_)
    have h9 : ∀ j r, zR M a j = some r → ad r = ad' r := fun j r q => ha r (hc a h j r q)
    rw [ha a h]
    unfold zent
    rw [zfl_ad h9, zrow_ad h9]
  unfold zWd at hW ⊢
  rw [← e]
  exact hW
theorem zSh_ad {ad ad' : Nat → Nat} {L : List Nat} {K : Nat → Nat} (ha : ∀ a ∈ L, ad a = ad' a) (h : zSh ad L K) : zSh ad' L K := ⟨h.1, h.2.1, fun a h1 b h2 e => h.2.2 a h1 b h2 (by rw [ha a h1, ha b h2]; exact e)⟩
theorem zA_hi {ad : Nat → Nat} {L : List Nat} {sz : Nat} (h : ∀ a ∈ L, sz ≤ ad a) : ∀ q, zA ad L sz q → sz ≤ q := fun q hq => hq.elim (fun ⟨a, h1, h2⟩ => by rw [h2]; exact h a h1) id
set_option maxRecDepth 100000 in
set_option maxHeartbeats 4000000 in
/-- case 0, refused -/
theorem law_c0n {p : Program} {l : Launch} {e : Env} {s : State} {m : MethodId} {below : List Frame} {meth : Method} {c : Code} {D : va_G} {cy : Nat → ClassId} {ad : Nat → Nat} {L : List Nat} {Q : State → Prop} {k : Nat} (hlt : l.stackTraces = false) {b : Nat} (C0 : zCx p s m c meth #[Value.ref b] cL_law 9 wsL_law RL (some .boolean) D cy ad L (zKs k)) (N : Nat) {I : Nat → ZM → Prop} {cc0 ss0 : Nat} (hcc : cc0 + 12 ≤ 601024) (hss : ss0 + 80 ≤ 7293034) {x5 : Int32} {M M2 : ZM} {bv : Int32} (g1 : ¬ zI M 0 1 < 0) (g2 : zR M 0 0 = some 1) (g3 : ¬ zI M 0 1 < Int32.ofNat (zln k 1)) (h2 : f_X7_addSentence N (zKs k) (zln k) 112 M = some (bv, M2)) (h3 : f_X7_thrown N (zKs k) (zln k) 112 M2 = some 1) (hI : I k M2)
    (hk : ∀ {M : ZM}, I k M → ∀ {H : Heap} {locs : List Loc} {ls : Array Slot}, zWd D cy ad L (zKs k) (zln k) M H → va_S (zA ad L s.heap.size) s.heap H locs → lv_has ls 9 [(0, .ref b), (1, .ref (ad 0)), (2, .ref (ad 112)), (3, .ref (ad 126)), (4, .ref (ad 127)), (5, .int x5)] → W p l e room_1 s m #[Value.ref b] below meth c H locs (cc0 + 12) (ss0 + 80) Q (F0 m 1739 ls []))
    {H : Heap} {locs : List Loc} {ls : Array Slot} (hW : zWd D cy ad L (zKs k) (zln k) M H) (hS : va_S (zA ad L s.heap.size) s.heap H locs) (hl : lv_has ls 9 [(0, .ref b), (1, .ref (ad 0)), (2, .ref (ad 112)), (3, .ref (ad 126)), (4, .ref (ad 127)), (5, .int x5)]) : W p l e room_1 s m #[Value.ref b] below meth c H locs cc0 ss0 Q (F0 m 152 ls []) := by
  obtain ⟨hx, hb, hr, hml, hown, hts, hlocks, hK, hL, hE⟩ := id C0
  refine lv_aload_n hx hb dL_law_152 rfl (lv_at hl 1 rfl) ?_
  refine lv_aload_n hx hb dL_law_153 rfl (lv_at hl 3 rfl) ?_
  refine z_calli hS (vx_runSW (As := [.ref (ad 0), .ref (ad 126)]) (rest := []) ⟨hx, hb, hml, hown, hts⟩ (m_L_addSentence_no l hlt hL (zKs_0 k) g1 g2 (zKs_1 k) g3 H.size) (vx_cwSW (hh := [(0, 8, 11, 13)]) 2 hts gL_law_L_addSentence rfl rfl rfl (by decide +kernel) ⟨by decide +kernel, by decide +kernel⟩) (z_preS hK hE hW hS [.ref (ad 0), .ref (ad 126)]) rfl rfl hl.1 rfl (lv_room (Nat.le_of_ble_eq_true rfl)) dL_law_154 ⟨by show cc0 + 1 ≤ 601024; omega, by show ss0 + 6 ≤ 7293034; omega⟩) (fun H locs hW hS => ?_)
  refine W.widen (k := cc0 + 12) (n := ss0 + 80) (by omega) (by omega) ?_
  refine lv_istore (lv' := [(6, .int 1), (0, .ref b), (1, .ref (ad 0)), (2, .ref (ad 112)), (3, .ref (ad 126)), (4, .ref (ad 127)), (5, .int x5)]) hx hb dL_law_157 hl (by decide) rfl (fun ls hl => ?_)
  refine lv_aload_n hx hb dL_law_159 rfl (lv_at hl 3 rfl) ?_
  refine z_calli hS (va_runV (As := []) (rest := []) ⟨hx, hb, hml, hown, hts⟩ (m_X7_addSentence l hL N h2 H.size) (cwV 0 hts gL_law_X7_addSentence rfl rfl rfl (by decide +kernel) ⟨by decide +kernel, by decide +kernel⟩) (z_preV (q := (RX7, TX7, 20)) hK hL hE hW hS (zKs_112 k) (by decide) rfl []) rfl rfl hl.1 rfl (lv_room (Nat.le_of_ble_eq_true rfl)) dL_law_160 ⟨by show _ ≤ 601024; omega, by show _ ≤ 7293034; omega⟩) (fun H locs hW hS => ?_)
  refine lv_istore (lv' := [(7, .int bv), (6, .int 1), (0, .ref b), (1, .ref (ad 0)), (2, .ref (ad 112)), (3, .ref (ad 126)), (4, .ref (ad 127)), (5, .int x5)]) hx hb dL_law_163 hl (by decide) rfl (fun ls hl => ?_)
  refine lv_aload_n hx hb dL_law_165 rfl (lv_at hl 4 rfl) ?_
  refine z_calli hS (va_runV (As := []) (rest := []) ⟨hx, hb, hml, hown, hts⟩ (m_X7_thrown l hL N h3 H.size) (cwV 0 hts gL_law_X7_thrown rfl rfl rfl (by decide +kernel) ⟨by decide +kernel, by decide +kernel⟩) (z_preV (q := (RX7, TX7, 20)) hK hL hE hW hS (zKs_112 k) (by decide) rfl []) rfl rfl hl.1 rfl (lv_room (Nat.le_of_ble_eq_true rfl)) dL_law_166 ⟨by show _ ≤ 601024; omega, by show _ ≤ 7293034; omega⟩) (fun H locs hW hS => ?_)
  refine lv_iload hx hb dL_law_169 (lv_at hl 1 rfl) ?_
  refine lv_icmp_eq (tgt := 176) hx hb dL_law_171 (by decide) (fun _ => ?_) (fun c9 => absurd rfl c9)
  refine lv_iload hx hb dL_law_176 (lv_at hl 1 rfl) ?_
  refine lv_if_ne (tgt := 193) hx hb dL_law_178 (by decide) (fun _ => ?_) (fun c8 => absurd c8 (by decide))
  refine lv_goto (tgt := 1739) hx hb dL_law_193 (by decide) ?_
  refine W.widen (k := cc0 + 12) (n := ss0 + 80) (by omega) (by omega) ?_
  exact hk hI hW hS (lv_sub hl [2, 3, 4, 5, 6, 7] rfl)
set_option maxRecDepth 100000 in
set_option maxHeartbeats 4000000 in
/-- case 0, a new sentence: its places are laid out already -/
theorem law_c0y {p : Program} {l : Launch} {e : Env} {s : State} {m : MethodId} {below : List Frame} {meth : Method} {c : Code} {D : va_G} {cy : Nat → ClassId} {ad : Nat → Nat} {L : List Nat} {Q : State → Prop} {k : Nat} {b : Nat} (C0 : zCx p s m c meth #[Value.ref b] cL_law 9 wsL_law RL (some .boolean) D cy ad L (zKs k)) (N : Nat) {I : Nat → ZM → Prop} {cc0 ss0 : Nat} (hcc : cc0 + 12 ≤ 601024) (hss : ss0 + 80 ≤ 7293034) {x5 : Int32} {M M1 M2 : ZM} {bv : Int32} (g1 : ¬ zI M 0 1 < 0) (g2 : zR M 0 0 = some 1) (g3 : zI M 0 1 < Int32.ofNat (zln k 1)) (g4 : f_X2_init N (va_up (zKs k) (128 + 11 * k) 3) (zln k) (128 + 11 * k) (zclr M (128 + 11 * k)) = some M1) (g5 : zI (zsR M1 1 (zI M 0 1).toNatClampNeg (some (128 + 11 * k))) 0 1 = zI M 0 1) (g6 : zok (zKs (k + 1)) (zln (k + 1)) 1 14 (zI M 0 1) = true) (h2 : f_X7_addSentence N (zKs (k + 1)) (zln (k + 1)) 112 (zMa k M M1) = some (bv, M2)) (h3 : f_X7_thrown N (zKs (k + 1)) (zln (k + 1)) 112 M2 = some 0) (h4 : zJ M2 126 0 = bv.toInt64) (hI : I (k + 1) M2)
    (hsz : ∀ a ∈ L, s.heap.size ≤ ad a)
    (hk : ∀ {L : List Nat} {M : ZM}, I (k + 1) M → zSh ad L (zKs (k + 1)) → ∀ {H : Heap} {locs : List Loc} {ls : Array Slot}, (∀ a, a ∈ L ↔ a < 128 + 11 * (k + 1)) → (∀ a ∈ L, s.heap.size ≤ ad a) → zWd D cy ad L (zKs (k + 1)) (zln (k + 1)) M H → va_S (zA ad L s.heap.size) s.heap H locs → lv_has ls 9 [(0, .ref b), (1, .ref (ad 0)), (2, .ref (ad 112)), (3, .ref (ad 126)), (4, .ref (ad 127)), (5, .int x5)] → W p l e room_1 s m #[Value.ref b] below meth c H locs (cc0 + 12) (ss0 + 80) Q (F0 m 1739 ls []))
    {H : Heap} {locs : List Loc} {ls : Array Slot} (hmL : ∀ a, a ∈ L ↔ a < 128 + 11 * k) (had : ∀ i, i < 11 → ad (128 + 11 * k + i) = H.size + i) (hW : zWd D cy ad L (zKs k) (zln k) M H) (hS : va_S (zA ad L s.heap.size) s.heap H locs) (hl : lv_has ls 9 [(0, .ref b), (1, .ref (ad 0)), (2, .ref (ad 112)), (3, .ref (ad 126)), (4, .ref (ad 127)), (5, .int x5)]) : W p l e room_1 s m #[Value.ref b] below meth c H locs cc0 ss0 Q (F0 m 152 ls []) := by
  obtain ⟨hx, hb, hr, hml, hown, hts, hlocks, hK, hL, hE⟩ := id C0
  have hsz1 : s.heap.size ≤ H.size := hS.1
  refine lv_aload_n hx hb dL_law_152 rfl (lv_at hl 1 rfl) ?_
  refine lv_aload_n hx hb dL_law_153 rfl (lv_at hl 3 rfl) ?_
  refine z_calls (lo := 128 + 11 * k) (n := 11) hS (vx_runSW (As := [.ref (ad 0), .ref (ad 126)]) (rest := []) ⟨hx, hb, hml, hown, hts⟩ (m_L_addSentence_ok l hL N (x0 := 0) (x1 := 126) (b := 1) (r0 := 128 + 11 * k) (zKs_0 k) g1 g2 (zKs_1 k) g3 g4 (zKs_0 (k + 1)) (zKs_new k) g5 g6 (zok_126 (k + 1)) H.size had) (vx_cwSW (hh := [(0, 8, 11, 13)]) 2 hts gL_law_L_addSentence rfl rfl rfl (by decide +kernel) ⟨by decide +kernel, by decide +kernel⟩) (z_preS hK hE hW hS [.ref (ad 0), .ref (ad 126)]) rfl rfl hl.1 rfl (lv_room (Nat.le_of_ble_eq_true rfl)) dL_law_154 ⟨by show cc0 + 11 ≤ 601024; omega, by show ss0 + 74 ≤ 7293034; omega⟩) (fun L1 H locs hm hL hW hS => ?_)
  refine W.widen (k := cc0 + 12) (n := ss0 + 80) (by omega) (by omega) ?_
  have hm1 : ∀ a, a ∈ L1 ↔ a < 128 + 11 * (k + 1) := fun a => by rw [hm a, hmL a]; omega
  have hs1 : ∀ a ∈ L1, s.heap.size ≤ ad a := fun a ha => by
    rcases (hm a).mp ha with h | ⟨h, h9⟩
    · exact hsz a h
    · have h8 := had (a - (128 + 11 * k)) (by omega)
      rw [show 128 + 11 * k + (a - (128 + 11 * k)) = a by omega] at h8
      omega
  have hE : zEnv (zA ad L1 s.heap.size) s s.heap := zEnv_narrow hE (fun q hq => Or.inr (zA_hi hs1 q hq))
  have hL : zSh ad L1 (zKs (k + 1)) := hL
  have hW : zWd D cy ad L1 (zKs (k + 1)) (zln (k + 1)) (zMa k M M1) H := hW
  refine lv_istore (lv' := [(6, .int 0), (0, .ref b), (1, .ref (ad 0)), (2, .ref (ad 112)), (3, .ref (ad 126)), (4, .ref (ad 127)), (5, .int x5)]) hx hb dL_law_157 hl (by decide) rfl (fun ls hl => ?_)
  refine lv_aload_n hx hb dL_law_159 rfl (lv_at hl 3 rfl) ?_
  refine z_calli hS (va_runV (As := []) (rest := []) ⟨hx, hb, hml, hown, hts⟩ (m_X7_addSentence l hL N h2 H.size) (cwV 0 hts gL_law_X7_addSentence rfl rfl rfl (by decide +kernel) ⟨by decide +kernel, by decide +kernel⟩) (z_preV (q := (RX7, TX7, 20)) hK hL hE hW hS (zKs_112 (k + 1)) (by decide) rfl []) rfl rfl hl.1 rfl (lv_room (Nat.le_of_ble_eq_true rfl)) dL_law_160 ⟨by show _ ≤ 601024; omega, by show _ ≤ 7293034; omega⟩) (fun H locs hW hS => ?_)
  refine lv_istore (lv' := [(7, .int bv), (6, .int 0), (0, .ref b), (1, .ref (ad 0)), (2, .ref (ad 112)), (3, .ref (ad 126)), (4, .ref (ad 127)), (5, .int x5)]) hx hb dL_law_163 hl (by decide) rfl (fun ls hl => ?_)
  refine lv_aload_n hx hb dL_law_165 rfl (lv_at hl 4 rfl) ?_
  refine z_calli hS (va_runV (As := []) (rest := []) ⟨hx, hb, hml, hown, hts⟩ (m_X7_thrown l hL N h3 H.size) (cwV 0 hts gL_law_X7_thrown rfl rfl rfl (by decide +kernel) ⟨by decide +kernel, by decide +kernel⟩) (z_preV (q := (RX7, TX7, 20)) hK hL hE hW hS (zKs_112 (k + 1)) (by decide) rfl []) rfl rfl hl.1 rfl (lv_room (Nat.le_of_ble_eq_true rfl)) dL_law_166 ⟨by show _ ≤ 601024; omega, by show _ ≤ 7293034; omega⟩) (fun H locs hW hS => ?_)
  refine lv_iload hx hb dL_law_169 (lv_at hl 1 rfl) ?_
  refine lv_icmp_eq (tgt := 176) hx hb dL_law_171 (by decide) (fun _ => ?_) (fun c9 => absurd rfl c9)
  refine lv_iload hx hb dL_law_176 (lv_at hl 1 rfl) ?_
  refine lv_if_ne (tgt := 193) hx hb dL_law_178 (by decide) (fun c8 => absurd rfl c8) (fun _ => ?_)
  refine lv_aload_n hx hb dL_law_181 rfl (lv_at hl 5 rfl) ?_
  refine lv_iconst (v := 0) hx hb dL_law_182 (by decide) ?_
  refine z_lald hx hb hK hL hW (zok_126 (k + 1)) dL_law_183 ?_
  refine lv_iload hx hb dL_law_184 (lv_at hl 0 rfl) ?_
  refine lv_i2l hx hb dL_law_186 rfl ?_
  refine z_lc_eq (tgt := 193) hx hb dL_law_187 dL_law_188 (by decide) (fun _ => ?_) (fun c9 => absurd h4 c9)
  refine lv_goto (tgt := 1739) hx hb dL_law_193 (by decide) ?_
  refine W.widen (k := cc0 + 12) (n := ss0 + 80) (by omega) (by omega) ?_
  exact hk hI hL hm1 hs1 hW hS (lv_sub hl [2, 3, 4, 5, 6, 7] rfl)

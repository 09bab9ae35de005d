/-! The cases of the law, laid by program (wip/whole/gen/genl.py) -/
/-- a boolean argument -/
def zb01 (p : Int32) : Int32 := if p = 0 then 0 else 1
set_option maxRecDepth 100000 in
set_option maxHeartbeats 4000000 in
theorem law_c1 {p : Program} {l : Launch} {e : Env} {s : State} {m : MethodId} {args : Array Value} {below : List Frame} {meth : Method} {c : Code} {D : va_G} {cy : Nat → ClassId} {ad : Nat → Nat} {L : List Nat} {K len : Nat → Nat} {Q : State → Prop} (hlt : l.stackTraces = false) (C0 : zCx p s m c meth args cL_law 9 wsL_law RL (some .boolean) D cy ad L K) {b Lx : Nat} {xs : Nat → Int32} (hX : va_X b Lx xs s s.heap) (hbl : b < s.heap.size) (hbA : ¬ (zA ad L s.heap.size) b) (N : Nat) {I : ZM → Prop} (hKx : K 0 = 7) (hKm : K 112 = 8) (hok : zok K len 126 12 0 = true) (hokD : zok K len 127 17 0 = true) {cc0 ss0 : Nat} (hcc : cc0 + 12 ≤ 601024) (hss : ss0 + 80 ≤ 7293034) {x5 : Int32} {p1 : Int32} {p2 : Int32} (hi1 : vp_in (x5 + (1 : Int32)) Lx) (hp1 : xs (x5 + (1 : Int32)).toNatClampNeg = p1) (hi2 : vp_in (x5 + (2 : Int32)) Lx) (hp2 : xs (x5 + (2 : Int32)).toNatClampNeg = p2) {M M1 M2 : ZM} {k1 : Int32} {bv : Int32} (h1 : f_L_addWord N K len 0 p1 p2 126 M = some (k1, M1)) (h2 : f_X7_addWord N K len 112 p1 p2 M1 = some (bv, M2)) (h3 : f_X7_thrown N K len 112 M2 = some k1) (h4 : k1 = 0 → zJ M2 126 0 = bv.toInt64) (hI : I M2)
    (hk : ∀ {M : ZM}, I M → ∀ {H : Heap} {locs : List Loc} {ls : Array Slot}, zWd D cy ad L K len M H → va_S (zA ad L s.heap.size) s.heap H locs → lv_has ls 9 [(0, .ref b), (1, .ref (ad 0)), (2, .ref (ad 112)), (3, .ref (ad 126)), (4, .ref (ad 127)), (5, .int x5)] → W p l e room_1 s m args below meth c H locs (cc0 + 12) (ss0 + 80) Q (F0 m 1739 ls []))
    {H : Heap} {locs : List Loc} {ls : Array Slot} (hW : zWd D cy ad L K len M H) (hS : va_S (zA ad L s.heap.size) s.heap H locs) (hl : lv_has ls 9 [(0, .ref b), (1, .ref (ad 0)), (2, .ref (ad 112)), (3, .ref (ad 126)), (4, .ref (ad 127)), (5, .int x5)]) : W p l e room_1 s m args below meth c H locs cc0 ss0 Q (F0 m 196 ls []) := by
  obtain ⟨hx, hb, hr, hml, hown, hts, hlocks, hK, hL, hE⟩ := id C0
  refine lv_aload_n hx hb dL_law_196 rfl (lv_at hl 1 rfl) ?_
  refine lv_aload_n hx hb dL_law_197 rfl (lv_at hl 0 rfl) ?_
  refine lv_iload hx hb dL_law_198 (lv_at hl 5 rfl) ?_
  refine lv_iconst (v := 1) hx hb dL_law_200 (by decide) ?_
  refine lv_iadd hx hb dL_law_201 ?_
  refine va_sld hx hb hX hbl hbA hS hi1 dL_law_202 ?_
  rw [hp1]
  refine lv_aload_n hx hb dL_law_203 rfl (lv_at hl 0 rfl) ?_
  refine lv_iload hx hb dL_law_204 (lv_at hl 5 rfl) ?_
  refine lv_iconst (v := 2) hx hb dL_law_206 (by decide) ?_
  refine lv_iadd hx hb dL_law_207 ?_
  refine va_sld hx hb hX hbl hbA hS hi2 dL_law_208 ?_
  rw [hp2]
  refine lv_aload_n hx hb dL_law_209 rfl (lv_at hl 3 rfl) ?_
  refine z_calli hS (vx_runSW (As := [.ref (ad 0), .int p1, .int p2, .ref (ad 126)]) (rest := []) ⟨hx, hb, hml, hown, hts⟩ (m_L_addWord l hlt hL N h1 H.size) (vx_cwSW (hh := [(0, 10, 13, 19), (0, 10, 17, 21), (0, 10, 21, 13)]) 4 hts gL_law_L_addWord rfl rfl rfl (by decide +kernel) ⟨by decide +kernel, by decide +kernel⟩) (z_preS hK hE hW hS [.ref (ad 0), .int p1, .int p2, .ref (ad 126)]) rfl rfl hl.1 rfl (lv_room (Nat.le_of_ble_eq_true rfl)) dL_law_210 ⟨by show cc0 + 2 ≤ 601024; omega, by show ss0 + 12 ≤ 7293034; omega⟩) (fun H locs hW hS => ?_)
  refine W.widen (k := cc0 + 12) (n := ss0 + 80) (by omega) (by omega) ?_
  refine lv_istore (lv' := [(6, .int k1), (0, .ref b), (1, .ref (ad 0)), (2, .ref (ad 112)), (3, .ref (ad 126)), (4, .ref (ad 127)), (5, .int x5)]) hx hb dL_law_213 hl (by decide) rfl (fun ls hl => ?_)
  refine lv_aload_n hx hb dL_law_215 rfl (lv_at hl 3 rfl) ?_
  refine lv_aload_n hx hb dL_law_216 rfl (lv_at hl 1 rfl) ?_
  refine lv_iload hx hb dL_law_217 (lv_at hl 6 rfl) ?_
  refine lv_iconst (v := 1) hx hb dL_law_219 (by decide) ?_
  refine lv_iadd hx hb dL_law_220 ?_
  refine va_sld hx hb hX hbl hbA hS hi1 dL_law_221 ?_
  rw [hp1]
  refine lv_aload_n hx hb dL_law_222 rfl (lv_at hl 1 rfl) ?_
  refine lv_iload hx hb dL_law_223 (lv_at hl 6 rfl) ?_
  refine lv_iconst (v := 2) hx hb dL_law_225 (by decide) ?_
  refine lv_iadd hx hb dL_law_226 ?_
  refine va_sld hx hb hX hbl hbA hS hi2 dL_law_227 ?_
  rw [hp2]
  refine z_calli hS (va_runV (As := [.int p1, .int p2]) (rest := []) ⟨hx, hb, hml, hown, hts⟩ (m_X7_addWord l hL N h2 H.size) (cwV 2 hts gL_law_X7_addWord rfl rfl rfl (by decide +kernel) ⟨by decide +kernel, by decide +kernel⟩) (z_preV (q := (RX7, TX7, 20)) hK hL hE hW hS hKm (by decide) rfl [.int p1, .int p2]) rfl rfl hl.1 rfl (lv_room (Nat.le_of_ble_eq_true rfl)) dL_law_228 ⟨by show _ ≤ 601024; omega, by show _ ≤ 7293034; omega⟩) (fun H locs hW hS => ?_)
  refine lv_istore (lv' := [(7, .int bv), (6, .int k1), (0, .ref b), (1, .ref (ad 0)), (2, .ref (ad 112)), (3, .ref (ad 126)), (4, .ref (ad 127)), (5, .int x5)]) hx hb dL_law_231 hl (by decide) rfl (fun ls hl => ?_)
  refine lv_aload_n hx hb dL_law_233 rfl (lv_at hl 4 rfl) ?_
  refine z_calli hS (va_runV (As := []) (rest := []) ⟨hx, hb, hml, hown, hts⟩ (m_X7_thrown l hL N h3 H.size) (cwV 0 hts gL_law_X7_thrown rfl rfl rfl (by decide +kernel) ⟨by decide +kernel, by decide +kernel⟩) (z_preV (q := (RX7, TX7, 20)) hK hL hE hW hS hKm (by decide) rfl []) rfl rfl hl.1 rfl (lv_room (Nat.le_of_ble_eq_true rfl)) dL_law_234 ⟨by show _ ≤ 601024; omega, by show _ ≤ 7293034; omega⟩) (fun H locs hW hS => ?_)
  refine lv_iload hx hb dL_law_237 (lv_at hl 1 rfl) ?_
  refine lv_icmp_eq (tgt := 244) hx hb dL_law_239 (by decide) (fun _ => ?_) (fun c9 => absurd rfl c9)
  refine lv_iload hx hb dL_law_244 (lv_at hl 1 rfl) ?_
  refine lv_if_ne (tgt := 261) hx hb dL_law_246 (by decide) (fun _ => ?_) (fun c8 => ?_)
  · skip
    refine lv_goto (tgt := 1739) hx hb dL_law_261 (by decide) ?_
    refine W.widen (k := cc0 + 12) (n := ss0 + 80) (by omega) (by omega) ?_
    exact hk hI hW hS (lv_sub hl [2, 3, 4, 5, 6, 7] rfl)
  have h4 := h4 c8
  refine lv_aload_n hx hb dL_law_249 rfl (lv_at hl 5 rfl) ?_
  refine lv_iconst (v := 0) hx hb dL_law_250 (by decide) ?_
  refine z_lald hx hb hK hL hW hok dL_law_251 ?_
  refine lv_iload hx hb dL_law_252 (lv_at hl 0 rfl) ?_
  refine lv_i2l hx hb dL_law_254 rfl ?_
  refine z_lc_eq (tgt := 261) hx hb dL_law_255 dL_law_256 (by decide) (fun _ => ?_) (fun c9 => absurd h4 c9)
  refine lv_goto (tgt := 1739) hx hb dL_law_261 (by decide) ?_
  refine W.widen (k := cc0 + 12) (n := ss0 + 80) (by omega) (by omega) ?_
  exact hk hI hW hS (lv_sub hl [2, 3, 4, 5, 6, 7] rfl)
set_option maxRecDepth 100000 in
set_option maxHeartbeats 4000000 in
theorem law_c2 {p : Program} {l : Launch} {e : Env} {s : State} {m : MethodId} {args : Array Value} {below : List Frame} {meth : Method} {c : Code} {D : va_G} {cy : Nat → ClassId} {ad : Nat → Nat} {L : List Nat} {K len : Nat → Nat} {Q : State → Prop} (hlt : l.stackTraces = false) (C0 : zCx p s m c meth args cL_law 9 wsL_law RL (some .boolean) D cy ad L K) {b Lx : Nat} {xs : Nat → Int32} (hX : va_X b Lx xs s s.heap) (hbl : b < s.heap.size) (hbA : ¬ (zA ad L s.heap.size) b) (N : Nat) {I : ZM → Prop} (hKx : K 0 = 7) (hKm : K 112 = 8) (hok : zok K len 126 12 0 = true) (hokD : zok K len 127 17 0 = true) {cc0 ss0 : Nat} (hcc : cc0 + 12 ≤ 601024) (hss : ss0 + 80 ≤ 7293034) {x5 : Int32} {M M1 M2 : ZM} {k1 : Int32} {bv : Int32} (h1 : f_X6_sentences N K len 0 M = some k1) (h2 : f_X7_sentences N K len 112 M = some (bv, M2)) (h4 : k1 = bv) (hI : I M2)
    (hk : ∀ {M : ZM}, I M → ∀ {H : Heap} {locs : List Loc} {ls : Array Slot}, zWd D cy ad L K len M H → va_S (zA ad L s.heap.size) s.heap H locs → lv_has ls 9 [(0, .ref b), (1, .ref (ad 0)), (2, .ref (ad 112)), (3, .ref (ad 126)), (4, .ref (ad 127)), (5, .int x5)] → W p l e room_1 s m args below meth c H locs (cc0 + 12) (ss0 + 80) Q (F0 m 1739 ls []))
    {H : Heap} {locs : List Loc} {ls : Array Slot} (hW : zWd D cy ad L K len M H) (hS : va_S (zA ad L s.heap.size) s.heap H locs) (hl : lv_has ls 9 [(0, .ref b), (1, .ref (ad 0)), (2, .ref (ad 112)), (3, .ref (ad 126)), (4, .ref (ad 127)), (5, .int x5)]) : W p l e room_1 s m args below meth c H locs cc0 ss0 Q (F0 m 264 ls []) := by
  obtain ⟨hx, hb, hr, hml, hown, hts, hlocks, hK, hL, hE⟩ := id C0
  refine lv_aload_n hx hb dL_law_264 rfl (lv_at hl 1 rfl) ?_
  refine z_calli hS (va_runV (As := []) (rest := []) ⟨hx, hb, hml, hown, hts⟩ (m_X6_sentences l hL N h1 H.size) (cwV 0 hts gL_law_X6_sentences rfl rfl rfl (by decide +kernel) ⟨by decide +kernel, by decide +kernel⟩) (z_preV (q := (RX6, TX6, 7)) hK hL hE hW hS hKx (by decide) rfl []) rfl rfl hl.1 rfl (lv_room (Nat.le_of_ble_eq_true rfl)) dL_law_265 ⟨by show _ ≤ 601024; omega, by show _ ≤ 7293034; omega⟩) (fun H locs hW hS => ?_)
  refine lv_aload_n hx hb dL_law_268 rfl (lv_at hl 2 rfl) ?_
  refine z_calli hS (va_runV (As := []) (rest := [.int k1]) ⟨hx, hb, hml, hown, hts⟩ (m_X7_sentences l hL N h2 H.size) (cwV 0 hts gL_law_X7_sentences rfl rfl rfl (by decide +kernel) ⟨by decide +kernel, by decide +kernel⟩) (z_preV (q := (RX7, TX7, 20)) hK hL hE hW hS hKm (by decide) rfl []) rfl rfl hl.1 rfl (lv_room (Nat.le_of_ble_eq_true rfl)) dL_law_269 ⟨by show _ ≤ 601024; omega, by show _ ≤ 7293034; omega⟩) (fun H locs hW hS => ?_)
  refine lv_icmp_eq (tgt := 1739) hx hb dL_law_272 (by decide) (fun _ => ?_) (fun c9 => absurd h4 c9)
  refine W.widen (k := cc0 + 12) (n := ss0 + 80) (by omega) (by omega) ?_
  exact hk hI hW hS (lv_sub hl [0, 1, 2, 3, 4, 5] rfl)
set_option maxRecDepth 100000 in
set_option maxHeartbeats 4000000 in
theorem law_c3 {p : Program} {l : Launch} {e : Env} {s : State} {m : MethodId} {args : Array Value} {below : List Frame} {meth : Method} {c : Code} {D : va_G} {cy : Nat → ClassId} {ad : Nat → Nat} {L : List Nat} {K len : Nat → Nat} {Q : State → Prop} (hlt : l.stackTraces = false) (C0 : zCx p s m c meth args cL_law 9 wsL_law RL (some .boolean) D cy ad L K) {b Lx : Nat} {xs : Nat → Int32} (hX : va_X b Lx xs s s.heap) (hbl : b < s.heap.size) (hbA : ¬ (zA ad L s.heap.size) b) (N : Nat) {I : ZM → Prop} (hKx : K 0 = 7) (hKm : K 112 = 8) (hok : zok K len 126 12 0 = true) (hokD : zok K len 127 17 0 = true) {cc0 ss0 : Nat} (hcc : cc0 + 12 ≤ 601024) (hss : ss0 + 80 ≤ 7293034) {x5 : Int32} {p1 : Int32} (hi1 : vp_in (x5 + (1 : Int32)) Lx) (hp1 : xs (x5 + (1 : Int32)).toNatClampNeg = p1) {M M1 M2 : ZM} {k1 : Int32} {bv : Int32} (h1 : f_L_words N K len 0 p1 126 M = some (k1, M1)) (h2 : f_X7_words N K len 112 p1 M1 = some (bv, M2)) (h3 : f_X7_thrown N K len 112 M2 = some k1) (h4 : k1 = 0 → zJ M2 126 0 = bv.toInt64) (hI : I M2)
    (hk : ∀ {M : ZM}, I M → ∀ {H : Heap} {locs : List Loc} {ls : Array Slot}, zWd D cy ad L K len M H → va_S (zA ad L s.heap.size) s.heap H locs → lv_has ls 9 [(0, .ref b), (1, .ref (ad 0)), (2, .ref (ad 112)), (3, .ref (ad 126)), (4, .ref (ad 127)), (5, .int x5)] → W p l e room_1 s m args below meth c H locs (cc0 + 12) (ss0 + 80) Q (F0 m 1739 ls []))
    {H : Heap} {locs : List Loc} {ls : Array Slot} (hW : zWd D cy ad L K len M H) (hS : va_S (zA ad L s.heap.size) s.heap H locs) (hl : lv_has ls 9 [(0, .ref b), (1, .ref (ad 0)), (2, .ref (ad 112)), (3, .ref (ad 126)), (4, .ref (ad 127)), (5, .int x5)]) : W p l e room_1 s m args below meth c H locs cc0 ss0 Q (F0 m 277 ls []) := by
  obtain ⟨hx, hb, hr, hml, hown, hts, hlocks, hK, hL, hE⟩ := id C0
  refine lv_aload_n hx hb dL_law_277 rfl (lv_at hl 1 rfl) ?_
  refine lv_aload_n hx hb dL_law_278 rfl (lv_at hl 0 rfl) ?_
  refine lv_iload hx hb dL_law_279 (lv_at hl 5 rfl) ?_
  refine lv_iconst (v := 1) hx hb dL_law_281 (by decide) ?_
  refine lv_iadd hx hb dL_law_282 ?_
  refine va_sld hx hb hX hbl hbA hS hi1 dL_law_283 ?_
  rw [hp1]
  refine lv_aload_n hx hb dL_law_284 rfl (lv_at hl 3 rfl) ?_
  refine z_calli hS (vx_runSW (As := [.ref (ad 0), .int p1, .ref (ad 126)]) (rest := []) ⟨hx, hb, hml, hown, hts⟩ (m_L_words l hlt hL N h1 H.size) (vx_cwSW (hh := [(0, 9, 12, 19)]) 3 hts gL_law_L_words rfl rfl rfl (by decide +kernel) ⟨by decide +kernel, by decide +kernel⟩) (z_preS hK hE hW hS [.ref (ad 0), .int p1, .ref (ad 126)]) rfl rfl hl.1 rfl (lv_room (Nat.le_of_ble_eq_true rfl)) dL_law_285 ⟨by show cc0 + 1 ≤ 601024; omega, by show ss0 + 6 ≤ 7293034; omega⟩) (fun H locs hW hS => ?_)
  refine W.widen (k := cc0 + 12) (n := ss0 + 80) (by omega) (by omega) ?_
  refine lv_istore (lv' := [(6, .int k1), (0, .ref b), (1, .ref (ad 0)), (2, .ref (ad 112)), (3, .ref (ad 126)), (4, .ref (ad 127)), (5, .int x5)]) hx hb dL_law_288 hl (by decide) rfl (fun ls hl => ?_)
  refine lv_aload_n hx hb dL_law_290 rfl (lv_at hl 3 rfl) ?_
  refine lv_aload_n hx hb dL_law_291 rfl (lv_at hl 1 rfl) ?_
  refine lv_iload hx hb dL_law_292 (lv_at hl 6 rfl) ?_
  refine lv_iconst (v := 1) hx hb dL_law_294 (by decide) ?_
  refine lv_iadd hx hb dL_law_295 ?_
  refine va_sld hx hb hX hbl hbA hS hi1 dL_law_296 ?_
  rw [hp1]
  refine z_calli hS (va_runV (As := [.int p1]) (rest := []) ⟨hx, hb, hml, hown, hts⟩ (m_X7_words l hL N h2 H.size) (cwV 1 hts gL_law_X7_words rfl rfl rfl (by decide +kernel) ⟨by decide +kernel, by decide +kernel⟩) (z_preV (q := (RX7, TX7, 20)) hK hL hE hW hS hKm (by decide) rfl [.int p1]) rfl rfl hl.1 rfl (lv_room (Nat.le_of_ble_eq_true rfl)) dL_law_297 ⟨by show _ ≤ 601024; omega, by show _ ≤ 7293034; omega⟩) (fun H locs hW hS => ?_)
  refine lv_istore (lv' := [(7, .int bv), (6, .int k1), (0, .ref b), (1, .ref (ad 0)), (2, .ref (ad 112)), (3, .ref (ad 126)), (4, .ref (ad 127)), (5, .int x5)]) hx hb dL_law_300 hl (by decide) rfl (fun ls hl => ?_)
  refine lv_aload_n hx hb dL_law_302 rfl (lv_at hl 4 rfl) ?_
  refine z_calli hS (va_runV (As := []) (rest := []) ⟨hx, hb, hml, hown, hts⟩ (m_X7_thrown l hL N h3 H.size) (cwV 0 hts gL_law_X7_thrown rfl rfl rfl (by decide +kernel) ⟨by decide +kernel, by decide +kernel⟩) (z_preV (q := (RX7, TX7, 20)) hK hL hE hW hS hKm (by decide) rfl []) rfl rfl hl.1 rfl (lv_room (Nat.le_of_ble_eq_true rfl)) dL_law_303 ⟨by show _ ≤ 601024; omega, by show _ ≤ 7293034; omega⟩) (fun H locs hW hS => ?_)
  refine lv_iload hx hb dL_law_306 (lv_at hl 1 rfl) ?_
  refine lv_icmp_eq (tgt := 313) hx hb dL_law_308 (by decide) (fun _ => ?_) (fun c9 => absurd rfl c9)
  refine lv_iload hx hb dL_law_313 (lv_at hl 1 rfl) ?_
  refine lv_if_ne (tgt := 330) hx hb dL_law_315 (by decide) (fun _ => ?_) (fun c8 => ?_)
  · skip
    refine lv_goto (tgt := 1739) hx hb dL_law_330 (by decide) ?_
    refine W.widen (k := cc0 + 12) (n := ss0 + 80) (by omega) (by omega) ?_
    exact hk hI hW hS (lv_sub hl [2, 3, 4, 5, 6, 7] rfl)
  have h4 := h4 c8
  refine lv_aload_n hx hb dL_law_318 rfl (lv_at hl 5 rfl) ?_
  refine lv_iconst (v := 0) hx hb dL_law_319 (by decide) ?_
  refine z_lald hx hb hK hL hW hok dL_law_320 ?_
  refine lv_iload hx hb dL_law_321 (lv_at hl 0 rfl) ?_
  refine lv_i2l hx hb dL_law_323 rfl ?_
  refine z_lc_eq (tgt := 330) hx hb dL_law_324 dL_law_325 (by decide) (fun _ => ?_) (fun c9 => absurd h4 c9)
  refine lv_goto (tgt := 1739) hx hb dL_law_330 (by decide) ?_
  refine W.widen (k := cc0 + 12) (n := ss0 + 80) (by omega) (by omega) ?_
  exact hk hI hW hS (lv_sub hl [2, 3, 4, 5, 6, 7] rfl)
set_option maxRecDepth 100000 in
set_option maxHeartbeats 4000000 in
theorem law_c4 {p : Program} {l : Launch} {e : Env} {s : State} {m : MethodId} {args : Array Value} {below : List Frame} {meth : Method} {c : Code} {D : va_G} {cy : Nat → ClassId} {ad : Nat → Nat} {L : List Nat} {K len : Nat → Nat} {Q : State → Prop} (hlt : l.stackTraces = false) (C0 : zCx p s m c meth args cL_law 9 wsL_law RL (some .boolean) D cy ad L K) {b Lx : Nat} {xs : Nat → Int32} (hX : va_X b Lx xs s s.heap) (hbl : b < s.heap.size) (hbA : ¬ (zA ad L s.heap.size) b) (N : Nat) {I : ZM → Prop} (hKx : K 0 = 7) (hKm : K 112 = 8) (hok : zok K len 126 12 0 = true) (hokD : zok K len 127 17 0 = true) {cc0 ss0 : Nat} (hcc : cc0 + 12 ≤ 601024) (hss : ss0 + 80 ≤ 7293034) {x5 : Int32} {p1 : Int32} {p2 : Int32} (hi1 : vp_in (x5 + (1 : Int32)) Lx) (hp1 : xs (x5 + (1 : Int32)).toNatClampNeg = p1) (hi2 : vp_in (x5 + (2 : Int32)) Lx) (hp2 : xs (x5 + (2 : Int32)).toNatClampNeg = p2) {M M1 M2 : ZM} {k1 : Int32} {bv : Int32} (h1 : f_L_kind N K len 0 p1 p2 126 M = some (k1, M1)) (h2 : f_X7_kind N K len 112 p1 p2 M1 = some (bv, M2)) (h3 : f_X7_thrown N K len 112 M2 = some k1) (h4 : k1 = 0 → zJ M2 126 0 = bv.toInt64) (hI : I M2)
    (hk : ∀ {M : ZM}, I M → ∀ {H : Heap} {locs : List Loc} {ls : Array Slot}, zWd D cy ad L K len M H → va_S (zA ad L s.heap.size) s.heap H locs → lv_has ls 9 [(0, .ref b), (1, .ref (ad 0)), (2, .ref (ad 112)), (3, .ref (ad 126)), (4, .ref (ad 127)), (5, .int x5)] → W p l e room_1 s m args below meth c H locs (cc0 + 12) (ss0 + 80) Q (F0 m 1739 ls []))
    {H : Heap} {locs : List Loc} {ls : Array Slot} (hW : zWd D cy ad L K len M H) (hS : va_S (zA ad L s.heap.size) s.heap H locs) (hl : lv_has ls 9 [(0, .ref b), (1, .ref (ad 0)), (2, .ref (ad 112)), (3, .ref (ad 126)), (4, .ref (ad 127)), (5, .int x5)]) : W p l e room_1 s m args below meth c H locs cc0 ss0 Q (F0 m 333 ls []) := by
  obtain ⟨hx, hb, hr, hml, hown, hts, hlocks, hK, hL, hE⟩ := id C0
  refine lv_aload_n hx hb dL_law_333 rfl (lv_at hl 1 rfl) ?_
  refine lv_aload_n hx hb dL_law_334 rfl (lv_at hl 0 rfl) ?_
  refine lv_iload hx hb dL_law_335 (lv_at hl 5 rfl) ?_
  refine lv_iconst (v := 1) hx hb dL_law_337 (by decide) ?_
  refine lv_iadd hx hb dL_law_338 ?_
  refine va_sld hx hb hX hbl hbA hS hi1 dL_law_339 ?_
  rw [hp1]
  refine lv_aload_n hx hb dL_law_340 rfl (lv_at hl 0 rfl) ?_
  refine lv_iload hx hb dL_law_341 (lv_at hl 5 rfl) ?_
  refine lv_iconst (v := 2) hx hb dL_law_343 (by decide) ?_
  refine lv_iadd hx hb dL_law_344 ?_
  refine va_sld hx hb hX hbl hbA hS hi2 dL_law_345 ?_
  rw [hp2]
  refine lv_aload_n hx hb dL_law_346 rfl (lv_at hl 3 rfl) ?_
  refine z_calli hS (vx_runSW (As := [.ref (ad 0), .int p1, .int p2, .ref (ad 126)]) (rest := []) ⟨hx, hb, hml, hown, hts⟩ (m_L_kind l hlt hL N h1 H.size) (vx_cwSW (hh := [(0, 10, 13, 19)]) 4 hts gL_law_L_kind rfl rfl rfl (by decide +kernel) ⟨by decide +kernel, by decide +kernel⟩) (z_preS hK hE hW hS [.ref (ad 0), .int p1, .int p2, .ref (ad 126)]) rfl rfl hl.1 rfl (lv_room (Nat.le_of_ble_eq_true rfl)) dL_law_347 ⟨by show cc0 + 2 ≤ 601024; omega, by show ss0 + 12 ≤ 7293034; omega⟩) (fun H locs hW hS => ?_)
  refine W.widen (k := cc0 + 12) (n := ss0 + 80) (by omega) (by omega) ?_
  refine lv_istore (lv' := [(6, .int k1), (0, .ref b), (1, .ref (ad 0)), (2, .ref (ad 112)), (3, .ref (ad 126)), (4, .ref (ad 127)), (5, .int x5)]) hx hb dL_law_350 hl (by decide) rfl (fun ls hl => ?_)
  refine lv_aload_n hx hb dL_law_352 rfl (lv_at hl 3 rfl) ?_
  refine lv_aload_n hx hb dL_law_353 rfl (lv_at hl 1 rfl) ?_
  refine lv_iload hx hb dL_law_354 (lv_at hl 6 rfl) ?_
  refine lv_iconst (v := 1) hx hb dL_law_356 (by decide) ?_
  refine lv_iadd hx hb dL_law_357 ?_
  refine va_sld hx hb hX hbl hbA hS hi1 dL_law_358 ?_
  rw [hp1]
  refine lv_aload_n hx hb dL_law_359 rfl (lv_at hl 1 rfl) ?_
  refine lv_iload hx hb dL_law_360 (lv_at hl 6 rfl) ?_
  refine lv_iconst (v := 2) hx hb dL_law_362 (by decide) ?_
  refine lv_iadd hx hb dL_law_363 ?_
  refine va_sld hx hb hX hbl hbA hS hi2 dL_law_364 ?_
  rw [hp2]
  refine z_calli hS (va_runV (As := [.int p1, .int p2]) (rest := []) ⟨hx, hb, hml, hown, hts⟩ (m_X7_kind l hL N h2 H.size) (cwV 2 hts gL_law_X7_kind rfl rfl rfl (by decide +kernel) ⟨by decide +kernel, by decide +kernel⟩) (z_preV (q := (RX7, TX7, 20)) hK hL hE hW hS hKm (by decide) rfl [.int p1, .int p2]) rfl rfl hl.1 rfl (lv_room (Nat.le_of_ble_eq_true rfl)) dL_law_365 ⟨by show _ ≤ 601024; omega, by show _ ≤ 7293034; omega⟩) (fun H locs hW hS => ?_)
  refine lv_istore (lv' := [(7, .int bv), (6, .int k1), (0, .ref b), (1, .ref (ad 0)), (2, .ref (ad 112)), (3, .ref (ad 126)), (4, .ref (ad 127)), (5, .int x5)]) hx hb dL_law_368 hl (by decide) rfl (fun ls hl => ?_)
  refine lv_aload_n hx hb dL_law_370 rfl (lv_at hl 4 rfl) ?_
  refine z_calli hS (va_runV (As := []) (rest := []) ⟨hx, hb, hml, hown, hts⟩ (m_X7_thrown l hL N h3 H.size) (cwV 0 hts gL_law_X7_thrown rfl rfl rfl (by decide +kernel) ⟨by decide +kernel, by decide +kernel⟩) (z_preV (q := (RX7, TX7, 20)) hK hL hE hW hS hKm (by decide) rfl []) rfl rfl hl.1 rfl (lv_room (Nat.le_of_ble_eq_true rfl)) dL_law_371 ⟨by show _ ≤ 601024; omega, by show _ ≤ 7293034; omega⟩) (fun H locs hW hS => ?_)
  refine lv_iload hx hb dL_law_374 (lv_at hl 1 rfl) ?_
  refine lv_icmp_eq (tgt := 381) hx hb dL_law_376 (by decide) (fun _ => ?_) (fun c9 => absurd rfl c9)
  refine lv_iload hx hb dL_law_381 (lv_at hl 1 rfl) ?_
  refine lv_if_ne (tgt := 398) hx hb dL_law_383 (by decide) (fun _ => ?_) (fun c8 => ?_)
  · skip
    refine lv_goto (tgt := 1739) hx hb dL_law_398 (by decide) ?_
    refine W.widen (k := cc0 + 12) (n := ss0 + 80) (by omega) (by omega) ?_
    exact hk hI hW hS (lv_sub hl [2, 3, 4, 5, 6, 7] rfl)
  have h4 := h4 c8
  refine lv_aload_n hx hb dL_law_386 rfl (lv_at hl 5 rfl) ?_
  refine lv_iconst (v := 0) hx hb dL_law_387 (by decide) ?_
  refine z_lald hx hb hK hL hW hok dL_law_388 ?_
  refine lv_iload hx hb dL_law_389 (lv_at hl 0 rfl) ?_
  refine lv_i2l hx hb dL_law_391 rfl ?_
  refine z_lc_eq (tgt := 398) hx hb dL_law_392 dL_law_393 (by decide) (fun _ => ?_) (fun c9 => absurd h4 c9)
  refine lv_goto (tgt := 1739) hx hb dL_law_398 (by decide) ?_
  refine W.widen (k := cc0 + 12) (n := ss0 + 80) (by omega) (by omega) ?_
  exact hk hI hW hS (lv_sub hl [2, 3, 4, 5, 6, 7] rfl)
set_option maxRecDepth 100000 in
set_option maxHeartbeats 4000000 in
theorem law_c5 {p : Program} {l : Launch} {e : Env} {s : State} {m : MethodId} {args : Array Value} {below : List Frame} {meth : Method} {c : Code} {D : va_G} {cy : Nat → ClassId} {ad : Nat → Nat} {L : List Nat} {K len : Nat → Nat} {Q : State → Prop} (hlt : l.stackTraces = false) (C0 : zCx p s m c meth args cL_law 9 wsL_law RL (some .boolean) D cy ad L K) {b Lx : Nat} {xs : Nat → Int32} (hX : va_X b Lx xs s s.heap) (hbl : b < s.heap.size) (hbA : ¬ (zA ad L s.heap.size) b) (N : Nat) {I : ZM → Prop} (hKx : K 0 = 7) (hKm : K 112 = 8) (hok : zok K len 126 12 0 = true) (hokD : zok K len 127 17 0 = true) {cc0 ss0 : Nat} (hcc : cc0 + 12 ≤ 601024) (hss : ss0 + 80 ≤ 7293034) {x5 : Int32} {p1 : Int32} {p2 : Int32} (hi1 : vp_in (x5 + (1 : Int32)) Lx) (hp1 : xs (x5 + (1 : Int32)).toNatClampNeg = p1) (hi2 : vp_in (x5 + (2 : Int32)) Lx) (hp2 : xs (x5 + (2 : Int32)).toNatClampNeg = p2) {M M1 M2 : ZM} {k1 : Int32} {bv : Int32} (h1 : f_L_setWeight N K len 0 p1 p2 126 M = some (k1, M1)) (h2 : f_X7_setWeight N K len 112 p1 p2 M1 = some (bv, M2)) (h3 : f_X7_thrown N K len 112 M2 = some k1) (h4 : k1 = 0 → zJ M2 126 0 = bv.toInt64) (hI : I M2)
    (hk : ∀ {M : ZM}, I M → ∀ {H : Heap} {locs : List Loc} {ls : Array Slot}, zWd D cy ad L K len M H → va_S (zA ad L s.heap.size) s.heap H locs → lv_has ls 9 [(0, .ref b), (1, .ref (ad 0)), (2, .ref (ad 112)), (3, .ref (ad 126)), (4, .ref (ad 127)), (5, .int x5)] → W p l e room_1 s m args below meth c H locs (cc0 + 12) (ss0 + 80) Q (F0 m 1739 ls []))
    {H : Heap} {locs : List Loc} {ls : Array Slot} (hW : zWd D cy ad L K len M H) (hS : va_S (zA ad L s.heap.size) s.heap H locs) (hl : lv_has ls 9 [(0, .ref b), (1, .ref (ad 0)), (2, .ref (ad 112)), (3, .ref (ad 126)), (4, .ref (ad 127)), (5, .int x5)]) : W p l e room_1 s m args below meth c H locs cc0 ss0 Q (F0 m 401 ls []) := by
  obtain ⟨hx, hb, hr, hml, hown, hts, hlocks, hK, hL, hE⟩ := id C0
  refine lv_aload_n hx hb dL_law_401 rfl (lv_at hl 1 rfl) ?_
  refine lv_aload_n hx hb dL_law_402 rfl (lv_at hl 0 rfl) ?_
  refine lv_iload hx hb dL_law_403 (lv_at hl 5 rfl) ?_
  refine lv_iconst (v := 1) hx hb dL_law_405 (by decide) ?_
  refine lv_iadd hx hb dL_law_406 ?_
  refine va_sld hx hb hX hbl hbA hS hi1 dL_law_407 ?_
  rw [hp1]
  refine lv_aload_n hx hb dL_law_408 rfl (lv_at hl 0 rfl) ?_
  refine lv_iload hx hb dL_law_409 (lv_at hl 5 rfl) ?_
  refine lv_iconst (v := 2) hx hb dL_law_411 (by decide) ?_
  refine lv_iadd hx hb dL_law_412 ?_
  refine va_sld hx hb hX hbl hbA hS hi2 dL_law_413 ?_
  rw [hp2]
  refine lv_aload_n hx hb dL_law_414 rfl (lv_at hl 3 rfl) ?_
  refine z_calli hS (vx_runSW (As := [.ref (ad 0), .int p1, .int p2, .ref (ad 126)]) (rest := []) ⟨hx, hb, hml, hown, hts⟩ (m_L_setWeight l hlt hL N h1 H.size) (vx_cwSW (hh := [(0, 10, 13, 19), (0, 10, 17, 21)]) 4 hts gL_law_L_setWeight rfl rfl rfl (by decide +kernel) ⟨by decide +kernel, by decide +kernel⟩) (z_preS hK hE hW hS [.ref (ad 0), .int p1, .int p2, .ref (ad 126)]) rfl rfl hl.1 rfl (lv_room (Nat.le_of_ble_eq_true rfl)) dL_law_415 ⟨by show cc0 + 2 ≤ 601024; omega, by show ss0 + 12 ≤ 7293034; omega⟩) (fun H locs hW hS => ?_)
  refine W.widen (k := cc0 + 12) (n := ss0 + 80) (by omega) (by omega) ?_
  refine lv_istore (lv' := [(6, .int k1), (0, .ref b), (1, .ref (ad 0)), (2, .ref (ad 112)), (3, .ref (ad 126)), (4, .ref (ad 127)), (5, .int x5)]) hx hb dL_law_418 hl (by decide) rfl (fun ls hl => ?_)
  refine lv_aload_n hx hb dL_law_420 rfl (lv_at hl 3 rfl) ?_
  refine lv_aload_n hx hb dL_law_421 rfl (lv_at hl 1 rfl) ?_
  refine lv_iload hx hb dL_law_422 (lv_at hl 6 rfl) ?_
  refine lv_iconst (v := 1) hx hb dL_law_424 (by decide) ?_
  refine lv_iadd hx hb dL_law_425 ?_
  refine va_sld hx hb hX hbl hbA hS hi1 dL_law_426 ?_
  rw [hp1]
  refine lv_aload_n hx hb dL_law_427 rfl (lv_at hl 1 rfl) ?_
  refine lv_iload hx hb dL_law_428 (lv_at hl 6 rfl) ?_
  refine lv_iconst (v := 2) hx hb dL_law_430 (by decide) ?_
  refine lv_iadd hx hb dL_law_431 ?_
  refine va_sld hx hb hX hbl hbA hS hi2 dL_law_432 ?_
  rw [hp2]
  refine z_calli hS (va_runV (As := [.int p1, .int p2]) (rest := []) ⟨hx, hb, hml, hown, hts⟩ (m_X7_setWeight l hL N h2 H.size) (cwV 2 hts gL_law_X7_setWeight rfl rfl rfl (by decide +kernel) ⟨by decide +kernel, by decide +kernel⟩) (z_preV (q := (RX7, TX7, 20)) hK hL hE hW hS hKm (by decide) rfl [.int p1, .int p2]) rfl rfl hl.1 rfl (lv_room (Nat.le_of_ble_eq_true rfl)) dL_law_433 ⟨by show _ ≤ 601024; omega, by show _ ≤ 7293034; omega⟩) (fun H locs hW hS => ?_)
  refine lv_istore (lv' := [(7, .int bv), (6, .int k1), (0, .ref b), (1, .ref (ad 0)), (2, .ref (ad 112)), (3, .ref (ad 126)), (4, .ref (ad 127)), (5, .int x5)]) hx hb dL_law_436 hl (by decide) rfl (fun ls hl => ?_)
  refine lv_aload_n hx hb dL_law_438 rfl (lv_at hl 4 rfl) ?_
  refine z_calli hS (va_runV (As := []) (rest := []) ⟨hx, hb, hml, hown, hts⟩ (m_X7_thrown l hL N h3 H.size) (cwV 0 hts gL_law_X7_thrown rfl rfl rfl (by decide +kernel) ⟨by decide +kernel, by decide +kernel⟩) (z_preV (q := (RX7, TX7, 20)) hK hL hE hW hS hKm (by decide) rfl []) rfl rfl hl.1 rfl (lv_room (Nat.le_of_ble_eq_true rfl)) dL_law_439 ⟨by show _ ≤ 601024; omega, by show _ ≤ 7293034; omega⟩) (fun H locs hW hS => ?_)
  refine lv_iload hx hb dL_law_442 (lv_at hl 1 rfl) ?_
  refine lv_icmp_eq (tgt := 449) hx hb dL_law_444 (by decide) (fun _ => ?_) (fun c9 => absurd rfl c9)
  refine lv_iload hx hb dL_law_449 (lv_at hl 1 rfl) ?_
  refine lv_if_ne (tgt := 466) hx hb dL_law_451 (by decide) (fun _ => ?_) (fun c8 => ?_)
  · skip
    refine lv_goto (tgt := 1739) hx hb dL_law_466 (by decide) ?_
    refine W.widen (k := cc0 + 12) (n := ss0 + 80) (by omega) (by omega) ?_
    exact hk hI hW hS (lv_sub hl [2, 3, 4, 5, 6, 7] rfl)
  have h4 := h4 c8
  refine lv_aload_n hx hb dL_law_454 rfl (lv_at hl 5 rfl) ?_
  refine lv_iconst (v := 0) hx hb dL_law_455 (by decide) ?_
  refine z_lald hx hb hK hL hW hok dL_law_456 ?_
  refine lv_iload hx hb dL_law_457 (lv_at hl 0 rfl) ?_
  refine lv_i2l hx hb dL_law_459 rfl ?_
  refine z_lc_eq (tgt := 466) hx hb dL_law_460 dL_law_461 (by decide) (fun _ => ?_) (fun c9 => absurd h4 c9)
  refine lv_goto (tgt := 1739) hx hb dL_law_466 (by decide) ?_
  refine W.widen (k := cc0 + 12) (n := ss0 + 80) (by omega) (by omega) ?_
  exact hk hI hW hS (lv_sub hl [2, 3, 4, 5, 6, 7] rfl)
set_option maxRecDepth 100000 in
set_option maxHeartbeats 4000000 in
theorem law_c6 {p : Program} {l : Launch} {e : Env} {s : State} {m : MethodId} {args : Array Value} {below : List Frame} {meth : Method} {c : Code} {D : va_G} {cy : Nat → ClassId} {ad : Nat → Nat} {L : List Nat} {K len : Nat → Nat} {Q : State → Prop} (hlt : l.stackTraces = false) (C0 : zCx p s m c meth args cL_law 9 wsL_law RL (some .boolean) D cy ad L K) {b Lx : Nat} {xs : Nat → Int32} (hX : va_X b Lx xs s s.heap) (hbl : b < s.heap.size) (hbA : ¬ (zA ad L s.heap.size) b) (N : Nat) {I : ZM → Prop} (hKx : K 0 = 7) (hKm : K 112 = 8) (hok : zok K len 126 12 0 = true) (hokD : zok K len 127 17 0 = true) {cc0 ss0 : Nat} (hcc : cc0 + 12 ≤ 601024) (hss : ss0 + 80 ≤ 7293034) {x5 : Int32} {p1 : Int32} (hi1 : vp_in (x5 + (1 : Int32)) Lx) (hp1 : xs (x5 + (1 : Int32)).toNatClampNeg = p1) {M M1 M2 : ZM} {k1 : Int32} {bv : Int32} (h1 : f_L_weight N K len 0 p1 126 M = some (k1, M1)) (h2 : f_X7_weight N K len 112 p1 M1 = some (bv, M2)) (h3 : f_X7_thrown N K len 112 M2 = some k1) (h4 : k1 = 0 → zJ M2 126 0 = bv.toInt64) (hI : I M2)
    (hk : ∀ {M : ZM}, I M → ∀ {H : Heap} {locs : List Loc} {ls : Array Slot}, zWd D cy ad L K len M H → va_S (zA ad L s.heap.size) s.heap H locs → lv_has ls 9 [(0, .ref b), (1, .ref (ad 0)), (2, .ref (ad 112)), (3, .ref (ad 126)), (4, .ref (ad 127)), (5, .int x5)] → W p l e room_1 s m args below meth c H locs (cc0 + 12) (ss0 + 80) Q (F0 m 1739 ls []))
    {H : Heap} {locs : List Loc} {ls : Array Slot} (hW : zWd D cy ad L K len M H) (hS : va_S (zA ad L s.heap.size) s.heap H locs) (hl : lv_has ls 9 [(0, .ref b), (1, .ref (ad 0)), (2, .ref (ad 112)), (3, .ref (ad 126)), (4, .ref (ad 127)), (5, .int x5)]) : W p l e room_1 s m args below meth c H locs cc0 ss0 Q (F0 m 469 ls []) := by
  obtain ⟨hx, hb, hr, hml, hown, hts, hlocks, hK, hL, hE⟩ := id C0
  refine lv_aload_n hx hb dL_law_469 rfl (lv_at hl 1 rfl) ?_
  refine lv_aload_n hx hb dL_law_470 rfl (lv_at hl 0 rfl) ?_
  refine lv_iload hx hb dL_law_471 (lv_at hl 5 rfl) ?_
  refine lv_iconst (v := 1) hx hb dL_law_473 (by decide) ?_
  refine lv_iadd hx hb dL_law_474 ?_
  refine va_sld hx hb hX hbl hbA hS hi1 dL_law_475 ?_
  rw [hp1]
  refine lv_aload_n hx hb dL_law_476 rfl (lv_at hl 3 rfl) ?_
  refine z_calli hS (vx_runSW (As := [.ref (ad 0), .int p1, .ref (ad 126)]) (rest := []) ⟨hx, hb, hml, hown, hts⟩ (m_L_weight l hlt hL N h1 H.size) (vx_cwSW (hh := [(0, 9, 12, 19)]) 3 hts gL_law_L_weight rfl rfl rfl (by decide +kernel) ⟨by decide +kernel, by decide +kernel⟩) (z_preS hK hE hW hS [.ref (ad 0), .int p1, .ref (ad 126)]) rfl rfl hl.1 rfl (lv_room (Nat.le_of_ble_eq_true rfl)) dL_law_477 ⟨by show cc0 + 1 ≤ 601024; omega, by show ss0 + 6 ≤ 7293034; omega⟩) (fun H locs hW hS => ?_)
  refine W.widen (k := cc0 + 12) (n := ss0 + 80) (by omega) (by omega) ?_
  refine lv_istore (lv' := [(6, .int k1), (0, .ref b), (1, .ref (ad 0)), (2, .ref (ad 112)), (3, .ref (ad 126)), (4, .ref (ad 127)), (5, .int x5)]) hx hb dL_law_480 hl (by decide) rfl (fun ls hl => ?_)
  refine lv_aload_n hx hb dL_law_482 rfl (lv_at hl 3 rfl) ?_
  refine lv_aload_n hx hb dL_law_483 rfl (lv_at hl 1 rfl) ?_
  refine lv_iload hx hb dL_law_484 (lv_at hl 6 rfl) ?_
  refine lv_iconst (v := 1) hx hb dL_law_486 (by decide) ?_
  refine lv_iadd hx hb dL_law_487 ?_
  refine va_sld hx hb hX hbl hbA hS hi1 dL_law_488 ?_
  rw [hp1]
  refine z_calli hS (va_runV (As := [.int p1]) (rest := []) ⟨hx, hb, hml, hown, hts⟩ (m_X7_weight l hL N h2 H.size) (cwV 1 hts gL_law_X7_weight rfl rfl rfl (by decide +kernel) ⟨by decide +kernel, by decide +kernel⟩) (z_preV (q := (RX7, TX7, 20)) hK hL hE hW hS hKm (by decide) rfl [.int p1]) rfl rfl hl.1 rfl (lv_room (Nat.le_of_ble_eq_true rfl)) dL_law_489 ⟨by show _ ≤ 601024; omega, by show _ ≤ 7293034; omega⟩) (fun H locs hW hS => ?_)
  refine lv_istore (lv' := [(7, .int bv), (6, .int k1), (0, .ref b), (1, .ref (ad 0)), (2, .ref (ad 112)), (3, .ref (ad 126)), (4, .ref (ad 127)), (5, .int x5)]) hx hb dL_law_492 hl (by decide) rfl (fun ls hl => ?_)
  refine lv_aload_n hx hb dL_law_494 rfl (lv_at hl 4 rfl) ?_
  refine z_calli hS (va_runV (As := []) (rest := []) ⟨hx, hb, hml, hown, hts⟩ (m_X7_thrown l hL N h3 H.size) (cwV 0 hts gL_law_X7_thrown rfl rfl rfl (by decide +kernel) ⟨by decide +kernel, by decide +kernel⟩) (z_preV (q := (RX7, TX7, 20)) hK hL hE hW hS hKm (by decide) rfl []) rfl rfl hl.1 rfl (lv_room (Nat.le_of_ble_eq_true rfl)) dL_law_495 ⟨by show _ ≤ 601024; omega, by show _ ≤ 7293034; omega⟩) (fun H locs hW hS => ?_)
  refine lv_iload hx hb dL_law_498 (lv_at hl 1 rfl) ?_
  refine lv_icmp_eq (tgt := 505) hx hb dL_law_500 (by decide) (fun _ => ?_) (fun c9 => absurd rfl c9)
  refine lv_iload hx hb dL_law_505 (lv_at hl 1 rfl) ?_
  refine lv_if_ne (tgt := 522) hx hb dL_law_507 (by decide) (fun _ => ?_) (fun c8 => ?_)
  · skip
    refine lv_goto (tgt := 1739) hx hb dL_law_522 (by decide) ?_
    refine W.widen (k := cc0 + 12) (n := ss0 + 80) (by omega) (by omega) ?_
    exact hk hI hW hS (lv_sub hl [2, 3, 4, 5, 6, 7] rfl)
  have h4 := h4 c8
  refine lv_aload_n hx hb dL_law_510 rfl (lv_at hl 5 rfl) ?_
  refine lv_iconst (v := 0) hx hb dL_law_511 (by decide) ?_
  refine z_lald hx hb hK hL hW hok dL_law_512 ?_
  refine lv_iload hx hb dL_law_513 (lv_at hl 0 rfl) ?_
  refine lv_i2l hx hb dL_law_515 rfl ?_
  refine z_lc_eq (tgt := 522) hx hb dL_law_516 dL_law_517 (by decide) (fun _ => ?_) (fun c9 => absurd h4 c9)
  refine lv_goto (tgt := 1739) hx hb dL_law_522 (by decide) ?_
  refine W.widen (k := cc0 + 12) (n := ss0 + 80) (by omega) (by omega) ?_
  exact hk hI hW hS (lv_sub hl [2, 3, 4, 5, 6, 7] rfl)
set_option maxRecDepth 100000 in
set_option maxHeartbeats 4000000 in
theorem law_c7 {p : Program} {l : Launch} {e : Env} {s : State} {m : MethodId} {args : Array Value} {below : List Frame} {meth : Method} {c : Code} {D : va_G} {cy : Nat → ClassId} {ad : Nat → Nat} {L : List Nat} {K len : Nat → Nat} {Q : State → Prop} (hlt : l.stackTraces = false) (C0 : zCx p s m c meth args cL_law 9 wsL_law RL (some .boolean) D cy ad L K) {b Lx : Nat} {xs : Nat → Int32} (hX : va_X b Lx xs s s.heap) (hbl : b < s.heap.size) (hbA : ¬ (zA ad L s.heap.size) b) (N : Nat) {I : ZM → Prop} (hKx : K 0 = 7) (hKm : K 112 = 8) (hok : zok K len 126 12 0 = true) (hokD : zok K len 127 17 0 = true) {cc0 ss0 : Nat} (hcc : cc0 + 12 ≤ 601024) (hss : ss0 + 80 ≤ 7293034) {x5 : Int32} {p1 : Int32} {p2 : Int32} {p3 : Int32} {p4 : Int32} (hi1 : vp_in (x5 + (1 : Int32)) Lx) (hp1 : xs (x5 + (1 : Int32)).toNatClampNeg = p1) (hi2 : vp_in (x5 + (2 : Int32)) Lx) (hp2 : xs (x5 + (2 : Int32)).toNatClampNeg = p2) (hi3 : vp_in (x5 + (3 : Int32)) Lx) (hp3 : xs (x5 + (3 : Int32)).toNatClampNeg = p3) (hi4 : vp_in (x5 + (4 : Int32)) Lx) (hp4 : xs (x5 + (4 : Int32)).toNatClampNeg = p4) {M M1 M2 : ZM} {k1 : Int32} {bv : Int32} (h1 : f_L_feature N K len 0 p1 p2 p3 (zb01 p4) 126 M = some (k1, M1)) (h2 : f_X7_feature N K len 112 p1 p2 p3 (zb01 p4) M1 = some (bv, M2)) (h3 : f_X7_thrown N K len 112 M2 = some k1) (h4 : k1 = 0 → zJ M2 126 0 = bv.toInt64) (hI : I M2)
    (hk : ∀ {M : ZM}, I M → ∀ {H : Heap} {locs : List Loc} {ls : Array Slot}, zWd D cy ad L K len M H → va_S (zA ad L s.heap.size) s.heap H locs → lv_has ls 9 [(0, .ref b), (1, .ref (ad 0)), (2, .ref (ad 112)), (3, .ref (ad 126)), (4, .ref (ad 127)), (5, .int x5)] → W p l e room_1 s m args below meth c H locs (cc0 + 12) (ss0 + 80) Q (F0 m 1739 ls []))
    {H : Heap} {locs : List Loc} {ls : Array Slot} (hW : zWd D cy ad L K len M H) (hS : va_S (zA ad L s.heap.size) s.heap H locs) (hl : lv_has ls 9 [(0, .ref b), (1, .ref (ad 0)), (2, .ref (ad 112)), (3, .ref (ad 126)), (4, .ref (ad 127)), (5, .int x5)]) : W p l e room_1 s m args below meth c H locs cc0 ss0 Q (F0 m 525 ls []) := by
  obtain ⟨hx, hb, hr, hml, hown, hts, hlocks, hK, hL, hE⟩ := id C0
  refine lv_aload_n hx hb dL_law_525 rfl (lv_at hl 1 rfl) ?_
  refine lv_aload_n hx hb dL_law_526 rfl (lv_at hl 0 rfl) ?_
  refine lv_iload hx hb dL_law_527 (lv_at hl 5 rfl) ?_
  refine lv_iconst (v := 1) hx hb dL_law_529 (by decide) ?_
  refine lv_iadd hx hb dL_law_530 ?_
  refine va_sld hx hb hX hbl hbA hS hi1 dL_law_531 ?_
  rw [hp1]
  refine lv_aload_n hx hb dL_law_532 rfl (lv_at hl 0 rfl) ?_
  refine lv_iload hx hb dL_law_533 (lv_at hl 5 rfl) ?_
  refine lv_iconst (v := 2) hx hb dL_law_535 (by decide) ?_
  refine lv_iadd hx hb dL_law_536 ?_
  refine va_sld hx hb hX hbl hbA hS hi2 dL_law_537 ?_
  rw [hp2]
  refine lv_aload_n hx hb dL_law_538 rfl (lv_at hl 0 rfl) ?_
  refine lv_iload hx hb dL_law_539 (lv_at hl 5 rfl) ?_
  refine lv_iconst (v := 3) hx hb dL_law_541 (by decide) ?_
  refine lv_iadd hx hb dL_law_542 ?_
  refine va_sld hx hb hX hbl hbA hS hi3 dL_law_543 ?_
  rw [hp3]
  refine lv_aload_n hx hb dL_law_544 rfl (lv_at hl 0 rfl) ?_
  refine lv_iload hx hb dL_law_545 (lv_at hl 5 rfl) ?_
  refine lv_iconst (v := 4) hx hb dL_law_547 (by decide) ?_
  refine lv_iadd hx hb dL_law_548 ?_
  refine va_sld hx hb hX hbl hbA hS hi4 dL_law_549 ?_
  rw [hp4]
  rcases (Decidable.em (p4 = 0)) with cb4 | cb4
  · have eb4 : zb01 p4 = 0 := if_pos cb4
    rw [eb4] at h1 h2
    refine lv_if_eq (tgt := 557) hx hb dL_law_550 (by decide) (fun _ => ?_) (fun c9 => absurd cb4 c9)
    refine lv_iconst (v := 0) hx hb dL_law_557 (by decide) ?_
    refine lv_aload_n hx hb dL_law_558 rfl (lv_at hl 3 rfl) ?_
    refine z_calli hS (vx_runSW (As := [.ref (ad 0), .int p1, .int p2, .int p3, .int (0 : Int32), .ref (ad 126)]) (rest := []) ⟨hx, hb, hml, hown, hts⟩ (m_L_feature l hlt hL N h1 H.size) (vx_cwSW (hh := [(0, 14, 17, 19), (0, 14, 21, 21)]) 6 hts gL_law_L_feature rfl rfl rfl (by decide +kernel) ⟨by decide +kernel, by decide +kernel⟩) (z_preS hK hE hW hS [.ref (ad 0), .int p1, .int p2, .int p3, .int (0 : Int32), .ref (ad 126)]) rfl rfl hl.1 rfl (lv_room (Nat.le_of_ble_eq_true rfl)) dL_law_559 ⟨by show cc0 + 3 ≤ 601024; omega, by show ss0 + 18 ≤ 7293034; omega⟩) (fun H locs hW hS => ?_)
    refine W.widen (k := cc0 + 12) (n := ss0 + 80) (by omega) (by omega) ?_
    refine lv_istore (lv' := [(6, .int k1), (0, .ref b), (1, .ref (ad 0)), (2, .ref (ad 112)), (3, .ref (ad 126)), (4, .ref (ad 127)), (5, .int x5)]) hx hb dL_law_562 hl (by decide) rfl (fun ls hl => ?_)
    refine lv_aload_n hx hb dL_law_564 rfl (lv_at hl 3 rfl) ?_
    refine lv_aload_n hx hb dL_law_565 rfl (lv_at hl 1 rfl) ?_
    refine lv_iload hx hb dL_law_566 (lv_at hl 6 rfl) ?_
    refine lv_iconst (v := 1) hx hb dL_law_568 (by decide) ?_
    refine lv_iadd hx hb dL_law_569 ?_
    refine va_sld hx hb hX hbl hbA hS hi1 dL_law_570 ?_
    rw [hp1]
    refine lv_aload_n hx hb dL_law_571 rfl (lv_at hl 1 rfl) ?_
    refine lv_iload hx hb dL_law_572 (lv_at hl 6 rfl) ?_
    refine lv_iconst (v := 2) hx hb dL_law_574 (by decide) ?_
    refine lv_iadd hx hb dL_law_575 ?_
    refine va_sld hx hb hX hbl hbA hS hi2 dL_law_576 ?_
    rw [hp2]
    refine lv_aload_n hx hb dL_law_577 rfl (lv_at hl 1 rfl) ?_
    refine lv_iload hx hb dL_law_578 (lv_at hl 6 rfl) ?_
    refine lv_iconst (v := 3) hx hb dL_law_580 (by decide) ?_
    refine lv_iadd hx hb dL_law_581 ?_
    refine va_sld hx hb hX hbl hbA hS hi3 dL_law_582 ?_
    rw [hp3]
    refine lv_aload_n hx hb dL_law_583 rfl (lv_at hl 1 rfl) ?_
    refine lv_iload hx hb dL_law_584 (lv_at hl 6 rfl) ?_
    refine lv_iconst (v := 4) hx hb dL_law_586 (by decide) ?_
    refine lv_iadd hx hb dL_law_587 ?_
    refine va_sld hx hb hX hbl hbA hS hi4 dL_law_588 ?_
    rw [hp4]
    refine lv_if_eq (tgt := 596) hx hb dL_law_589 (by decide) (fun _ => ?_) (fun c9 => absurd cb4 c9)
    refine lv_iconst (v := 0) hx hb dL_law_596 (by decide) ?_
    refine z_calli hS (va_runV (As := [.int p1, .int p2, .int p3, .int (0 : Int32)]) (rest := []) ⟨hx, hb, hml, hown, hts⟩ (m_X7_feature l hL N h2 H.size) (cwV 4 hts gL_law_X7_feature rfl rfl rfl (by decide +kernel) ⟨by decide +kernel, by decide +kernel⟩) (z_preV (q := (RX7, TX7, 20)) hK hL hE hW hS hKm (by decide) rfl [.int p1, .int p2, .int p3, .int (0 : Int32)]) rfl rfl hl.1 rfl (lv_room (Nat.le_of_ble_eq_true rfl)) dL_law_597 ⟨by show _ ≤ 601024; omega, by show _ ≤ 7293034; omega⟩) (fun H locs hW hS => ?_)
    refine lv_istore (lv' := [(7, .int bv), (6, .int k1), (0, .ref b), (1, .ref (ad 0)), (2, .ref (ad 112)), (3, .ref (ad 126)), (4, .ref (ad 127)), (5, .int x5)]) hx hb dL_law_600 hl (by decide) rfl (fun ls hl => ?_)
    refine lv_aload_n hx hb dL_law_602 rfl (lv_at hl 4 rfl) ?_
    refine z_calli hS (va_runV (As := []) (rest := []) ⟨hx, hb, hml, hown, hts⟩ (m_X7_thrown l hL N h3 H.size) (cwV 0 hts gL_law_X7_thrown rfl rfl rfl (by decide +kernel) ⟨by decide +kernel, by decide +kernel⟩) (z_preV (q := (RX7, TX7, 20)) hK hL hE hW hS hKm (by decide) rfl []) rfl rfl hl.1 rfl (lv_room (Nat.le_of_ble_eq_true rfl)) dL_law_603 ⟨by show _ ≤ 601024; omega, by show _ ≤ 7293034; omega⟩) (fun H locs hW hS => ?_)
    refine lv_iload hx hb dL_law_606 (lv_at hl 1 rfl) ?_
    refine lv_icmp_eq (tgt := 613) hx hb dL_law_608 (by decide) (fun _ => ?_) (fun c9 => absurd rfl c9)
    refine lv_iload hx hb dL_law_613 (lv_at hl 1 rfl) ?_
    refine lv_if_ne (tgt := 630) hx hb dL_law_615 (by decide) (fun _ => ?_) (fun c8 => ?_)
    · skip
      refine lv_goto (tgt := 1739) hx hb dL_law_630 (by decide) ?_
      refine W.widen (k := cc0 + 12) (n := ss0 + 80) (by omega) (by omega) ?_
      exact hk hI hW hS (lv_sub hl [2, 3, 4, 5, 6, 7] rfl)
    have h4 := h4 c8
    refine lv_aload_n hx hb dL_law_618 rfl (lv_at hl 5 rfl) ?_
    refine lv_iconst (v := 0) hx hb dL_law_619 (by decide) ?_
    refine z_lald hx hb hK hL hW hok dL_law_620 ?_
    refine lv_iload hx hb dL_law_621 (lv_at hl 0 rfl) ?_
    refine lv_i2l hx hb dL_law_623 rfl ?_
    refine z_lc_eq (tgt := 630) hx hb dL_law_624 dL_law_625 (by decide) (fun _ => ?_) (fun c9 => absurd h4 c9)
    refine lv_goto (tgt := 1739) hx hb dL_law_630 (by decide) ?_
    refine W.widen (k := cc0 + 12) (n := ss0 + 80) (by omega) (by omega) ?_
    exact hk hI hW hS (lv_sub hl [2, 3, 4, 5, 6, 7] rfl)
  · have eb4 : zb01 p4 = 1 := if_neg cb4
    rw [eb4] at h1 h2
    refine lv_if_eq (tgt := 557) hx hb dL_law_550 (by decide) (fun c9 => absurd c9 cb4) (fun _ => ?_)
    refine lv_iconst (v := 1) hx hb dL_law_553 (by decide) ?_
    refine lv_goto (tgt := 558) hx hb dL_law_554 (by decide) ?_
    refine lv_aload_n hx hb dL_law_558 rfl (lv_at hl 3 rfl) ?_
    refine z_calli hS (vx_runSW (As := [.ref (ad 0), .int p1, .int p2, .int p3, .int (1 : Int32), .ref (ad 126)]) (rest := []) ⟨hx, hb, hml, hown, hts⟩ (m_L_feature l hlt hL N h1 H.size) (vx_cwSW (hh := [(0, 14, 17, 19), (0, 14, 21, 21)]) 6 hts gL_law_L_feature rfl rfl rfl (by decide +kernel) ⟨by decide +kernel, by decide +kernel⟩) (z_preS hK hE hW hS [.ref (ad 0), .int p1, .int p2, .int p3, .int (1 : Int32), .ref (ad 126)]) rfl rfl hl.1 rfl (lv_room (Nat.le_of_ble_eq_true rfl)) dL_law_559 ⟨by show cc0 + 3 ≤ 601024; omega, by show ss0 + 18 ≤ 7293034; omega⟩) (fun H locs hW hS => ?_)
    refine W.widen (k := cc0 + 12) (n := ss0 + 80) (by omega) (by omega) ?_
    refine lv_istore (lv' := [(6, .int k1), (0, .ref b), (1, .ref (ad 0)), (2, .ref (ad 112)), (3, .ref (ad 126)), (4, .ref (ad 127)), (5, .int x5)]) hx hb dL_law_562 hl (by decide) rfl (fun ls hl => ?_)
    refine lv_aload_n hx hb dL_law_564 rfl (lv_at hl 3 rfl) ?_
    refine lv_aload_n hx hb dL_law_565 rfl (lv_at hl 1 rfl) ?_
    refine lv_iload hx hb dL_law_566 (lv_at hl 6 rfl) ?_
    refine lv_iconst (v := 1) hx hb dL_law_568 (by decide) ?_
    refine lv_iadd hx hb dL_law_569 ?_
    refine va_sld hx hb hX hbl hbA hS hi1 dL_law_570 ?_
    rw [hp1]
    refine lv_aload_n hx hb dL_law_571 rfl (lv_at hl 1 rfl) ?_
    refine lv_iload hx hb dL_law_572 (lv_at hl 6 rfl) ?_
    refine lv_iconst (v := 2) hx hb dL_law_574 (by decide) ?_
    refine lv_iadd hx hb dL_law_575 ?_
    refine va_sld hx hb hX hbl hbA hS hi2 dL_law_576 ?_
    rw [hp2]
    refine lv_aload_n hx hb dL_law_577 rfl (lv_at hl 1 rfl) ?_
    refine lv_iload hx hb dL_law_578 (lv_at hl 6 rfl) ?_
    refine lv_iconst (v := 3) hx hb dL_law_580 (by decide) ?_
    refine lv_iadd hx hb dL_law_581 ?_
    refine va_sld hx hb hX hbl hbA hS hi3 dL_law_582 ?_
    rw [hp3]
    refine lv_aload_n hx hb dL_law_583 rfl (lv_at hl 1 rfl) ?_
    refine lv_iload hx hb dL_law_584 (lv_at hl 6 rfl) ?_
    refine lv_iconst (v := 4) hx hb dL_law_586 (by decide) ?_
    refine lv_iadd hx hb dL_law_587 ?_
    refine va_sld hx hb hX hbl hbA hS hi4 dL_law_588 ?_
    rw [hp4]
    refine lv_if_eq (tgt := 596) hx hb dL_law_589 (by decide) (fun c9 => absurd c9 cb4) (fun _ => ?_)
    refine lv_iconst (v := 1) hx hb dL_law_592 (by decide) ?_
    refine lv_goto (tgt := 597) hx hb dL_law_593 (by decide) ?_
    refine z_calli hS (va_runV (As := [.int p1, .int p2, .int p3, .int (1 : Int32)]) (rest := []) ⟨hx, hb, hml, hown, hts⟩ (m_X7_feature l hL N h2 H.size) (cwV 4 hts gL_law_X7_feature rfl rfl rfl (by decide +kernel) ⟨by decide +kernel, by decide +kernel⟩) (z_preV (q := (RX7, TX7, 20)) hK hL hE hW hS hKm (by decide) rfl [.int p1, .int p2, .int p3, .int (1 : Int32)]) rfl rfl hl.1 rfl (lv_room (Nat.le_of_ble_eq_true rfl)) dL_law_597 ⟨by show _ ≤ 601024; omega, by show _ ≤ 7293034; omega⟩) (fun H locs hW hS => ?_)
    refine lv_istore (lv' := [(7, .int bv), (6, .int k1), (0, .ref b), (1, .ref (ad 0)), (2, .ref (ad 112)), (3, .ref (ad 126)), (4, .ref (ad 127)), (5, .int x5)]) hx hb dL_law_600 hl (by decide) rfl (fun ls hl => ?_)
    refine lv_aload_n hx hb dL_law_602 rfl (lv_at hl 4 rfl) ?_
    refine z_calli hS (va_runV (As := []) (rest := []) ⟨hx, hb, hml, hown, hts⟩ (m_X7_thrown l hL N h3 H.size) (cwV 0 hts gL_law_X7_thrown rfl rfl rfl (by decide +kernel) ⟨by decide +kernel, by decide +kernel⟩) (z_preV (q := (RX7, TX7, 20)) hK hL hE hW hS hKm (by decide) rfl []) rfl rfl hl.1 rfl (lv_room (Nat.le_of_ble_eq_true rfl)) dL_law_603 ⟨by show _ ≤ 601024; omega, by show _ ≤ 7293034; omega⟩) (fun H locs hW hS => ?_)
    refine lv_iload hx hb dL_law_606 (lv_at hl 1 rfl) ?_
    refine lv_icmp_eq (tgt := 613) hx hb dL_law_608 (by decide) (fun _ => ?_) (fun c9 => absurd rfl c9)
    refine lv_iload hx hb dL_law_613 (lv_at hl 1 rfl) ?_
    refine lv_if_ne (tgt := 630) hx hb dL_law_615 (by decide) (fun _ => ?_) (fun c8 => ?_)
    · skip
      refine lv_goto (tgt := 1739) hx hb dL_law_630 (by decide) ?_
      refine W.widen (k := cc0 + 12) (n := ss0 + 80) (by omega) (by omega) ?_
      exact hk hI hW hS (lv_sub hl [2, 3, 4, 5, 6, 7] rfl)
    have h4 := h4 c8
    refine lv_aload_n hx hb dL_law_618 rfl (lv_at hl 5 rfl) ?_
    refine lv_iconst (v := 0) hx hb dL_law_619 (by decide) ?_
    refine z_lald hx hb hK hL hW hok dL_law_620 ?_
    refine lv_iload hx hb dL_law_621 (lv_at hl 0 rfl) ?_
    refine lv_i2l hx hb dL_law_623 rfl ?_
    refine z_lc_eq (tgt := 630) hx hb dL_law_624 dL_law_625 (by decide) (fun _ => ?_) (fun c9 => absurd h4 c9)
    refine lv_goto (tgt := 1739) hx hb dL_law_630 (by decide) ?_
    refine W.widen (k := cc0 + 12) (n := ss0 + 80) (by omega) (by omega) ?_
    exact hk hI hW hS (lv_sub hl [2, 3, 4, 5, 6, 7] rfl)
set_option maxRecDepth 100000 in
set_option maxHeartbeats 4000000 in
theorem law_c8 {p : Program} {l : Launch} {e : Env} {s : State} {m : MethodId} {args : Array Value} {below : List Frame} {meth : Method} {c : Code} {D : va_G} {cy : Nat → ClassId} {ad : Nat → Nat} {L : List Nat} {K len : Nat → Nat} {Q : State → Prop} (hlt : l.stackTraces = false) (C0 : zCx p s m c meth args cL_law 9 wsL_law RL (some .boolean) D cy ad L K) {b Lx : Nat} {xs : Nat → Int32} (hX : va_X b Lx xs s s.heap) (hbl : b < s.heap.size) (hbA : ¬ (zA ad L s.heap.size) b) (N : Nat) {I : ZM → Prop} (hKx : K 0 = 7) (hKm : K 112 = 8) (hok : zok K len 126 12 0 = true) (hokD : zok K len 127 17 0 = true) {cc0 ss0 : Nat} (hcc : cc0 + 12 ≤ 601024) (hss : ss0 + 80 ≤ 7293034) {x5 : Int32} {p1 : Int32} {p2 : Int32} {p3 : Int32} (hi1 : vp_in (x5 + (1 : Int32)) Lx) (hp1 : xs (x5 + (1 : Int32)).toNatClampNeg = p1) (hi2 : vp_in (x5 + (2 : Int32)) Lx) (hp2 : xs (x5 + (2 : Int32)).toNatClampNeg = p2) (hi3 : vp_in (x5 + (3 : Int32)) Lx) (hp3 : xs (x5 + (3 : Int32)).toNatClampNeg = p3) {M M1 M2 : ZM} {k1 : Int32} {bv : Int32} (h1 : f_L_score N K len 0 p1 p2 p3 126 M = some (k1, M1)) (h2 : f_X7_score N K len 112 p1 p2 p3 M1 = some (bv, M2)) (h3 : f_X7_thrown N K len 112 M2 = some k1) (h4 : k1 = 0 → zJ M2 126 0 = bv.toInt64) (hI : I M2)
    (hk : ∀ {M : ZM}, I M → ∀ {H : Heap} {locs : List Loc} {ls : Array Slot}, zWd D cy ad L K len M H → va_S (zA ad L s.heap.size) s.heap H locs → lv_has ls 9 [(0, .ref b), (1, .ref (ad 0)), (2, .ref (ad 112)), (3, .ref (ad 126)), (4, .ref (ad 127)), (5, .int x5)] → W p l e room_1 s m args below meth c H locs (cc0 + 12) (ss0 + 80) Q (F0 m 1739 ls []))
    {H : Heap} {locs : List Loc} {ls : Array Slot} (hW : zWd D cy ad L K len M H) (hS : va_S (zA ad L s.heap.size) s.heap H locs) (hl : lv_has ls 9 [(0, .ref b), (1, .ref (ad 0)), (2, .ref (ad 112)), (3, .ref (ad 126)), (4, .ref (ad 127)), (5, .int x5)]) : W p l e room_1 s m args below meth c H locs cc0 ss0 Q (F0 m 633 ls []) := by
  obtain ⟨hx, hb, hr, hml, hown, hts, hlocks, hK, hL, hE⟩ := id C0
  refine lv_aload_n hx hb dL_law_633 rfl (lv_at hl 1 rfl) ?_
  refine lv_aload_n hx hb dL_law_634 rfl (lv_at hl 0 rfl) ?_
  refine lv_iload hx hb dL_law_635 (lv_at hl 5 rfl) ?_
  refine lv_iconst (v := 1) hx hb dL_law_637 (by decide) ?_
  refine lv_iadd hx hb dL_law_638 ?_
  refine va_sld hx hb hX hbl hbA hS hi1 dL_law_639 ?_
  rw [hp1]
  refine lv_aload_n hx hb dL_law_640 rfl (lv_at hl 0 rfl) ?_
  refine lv_iload hx hb dL_law_641 (lv_at hl 5 rfl) ?_
  refine lv_iconst (v := 2) hx hb dL_law_643 (by decide) ?_
  refine lv_iadd hx hb dL_law_644 ?_
  refine va_sld hx hb hX hbl hbA hS hi2 dL_law_645 ?_
  rw [hp2]
  refine lv_aload_n hx hb dL_law_646 rfl (lv_at hl 0 rfl) ?_
  refine lv_iload hx hb dL_law_647 (lv_at hl 5 rfl) ?_
  refine lv_iconst (v := 3) hx hb dL_law_649 (by decide) ?_
  refine lv_iadd hx hb dL_law_650 ?_
  refine va_sld hx hb hX hbl hbA hS hi3 dL_law_651 ?_
  rw [hp3]
  refine lv_aload_n hx hb dL_law_652 rfl (lv_at hl 3 rfl) ?_
  refine z_calli hS (vx_runSW (As := [.ref (ad 0), .int p1, .int p2, .int p3, .ref (ad 126)]) (rest := []) ⟨hx, hb, hml, hown, hts⟩ (m_L_score l hlt hL N h1 H.size) (vx_cwSW (hh := [(0, 12, 15, 19), (0, 12, 19, 21)]) 5 hts gL_law_L_score rfl rfl rfl (by decide +kernel) ⟨by decide +kernel, by decide +kernel⟩) (z_preS hK hE hW hS [.ref (ad 0), .int p1, .int p2, .int p3, .ref (ad 126)]) rfl rfl hl.1 rfl (lv_room (Nat.le_of_ble_eq_true rfl)) dL_law_653 ⟨by show cc0 + 3 ≤ 601024; omega, by show ss0 + 18 ≤ 7293034; omega⟩) (fun H locs hW hS => ?_)
  refine W.widen (k := cc0 + 12) (n := ss0 + 80) (by omega) (by omega) ?_
  refine lv_istore (lv' := [(6, .int k1), (0, .ref b), (1, .ref (ad 0)), (2, .ref (ad 112)), (3, .ref (ad 126)), (4, .ref (ad 127)), (5, .int x5)]) hx hb dL_law_656 hl (by decide) rfl (fun ls hl => ?_)
  refine lv_aload_n hx hb dL_law_658 rfl (lv_at hl 3 rfl) ?_
  refine lv_aload_n hx hb dL_law_659 rfl (lv_at hl 1 rfl) ?_
  refine lv_iload hx hb dL_law_660 (lv_at hl 6 rfl) ?_
  refine lv_iconst (v := 1) hx hb dL_law_662 (by decide) ?_
  refine lv_iadd hx hb dL_law_663 ?_
  refine va_sld hx hb hX hbl hbA hS hi1 dL_law_664 ?_
  rw [hp1]
  refine lv_aload_n hx hb dL_law_665 rfl (lv_at hl 1 rfl) ?_
  refine lv_iload hx hb dL_law_666 (lv_at hl 6 rfl) ?_
  refine lv_iconst (v := 2) hx hb dL_law_668 (by decide) ?_
  refine lv_iadd hx hb dL_law_669 ?_
  refine va_sld hx hb hX hbl hbA hS hi2 dL_law_670 ?_
  rw [hp2]
  refine lv_aload_n hx hb dL_law_671 rfl (lv_at hl 1 rfl) ?_
  refine lv_iload hx hb dL_law_672 (lv_at hl 6 rfl) ?_
  refine lv_iconst (v := 3) hx hb dL_law_674 (by decide) ?_
  refine lv_iadd hx hb dL_law_675 ?_
  refine va_sld hx hb hX hbl hbA hS hi3 dL_law_676 ?_
  rw [hp3]
  refine z_calli hS (va_runV (As := [.int p1, .int p2, .int p3]) (rest := []) ⟨hx, hb, hml, hown, hts⟩ (m_X7_score l hL N h2 H.size) (cwV 3 hts gL_law_X7_score rfl rfl rfl (by decide +kernel) ⟨by decide +kernel, by decide +kernel⟩) (z_preV (q := (RX7, TX7, 20)) hK hL hE hW hS hKm (by decide) rfl [.int p1, .int p2, .int p3]) rfl rfl hl.1 rfl (lv_room (Nat.le_of_ble_eq_true rfl)) dL_law_677 ⟨by show _ ≤ 601024; omega, by show _ ≤ 7293034; omega⟩) (fun H locs hW hS => ?_)
  refine lv_istore (lv' := [(7, .int bv), (6, .int k1), (0, .ref b), (1, .ref (ad 0)), (2, .ref (ad 112)), (3, .ref (ad 126)), (4, .ref (ad 127)), (5, .int x5)]) hx hb dL_law_680 hl (by decide) rfl (fun ls hl => ?_)
  refine lv_aload_n hx hb dL_law_682 rfl (lv_at hl 4 rfl) ?_
  refine z_calli hS (va_runV (As := []) (rest := []) ⟨hx, hb, hml, hown, hts⟩ (m_X7_thrown l hL N h3 H.size) (cwV 0 hts gL_law_X7_thrown rfl rfl rfl (by decide +kernel) ⟨by decide +kernel, by decide +kernel⟩) (z_preV (q := (RX7, TX7, 20)) hK hL hE hW hS hKm (by decide) rfl []) rfl rfl hl.1 rfl (lv_room (Nat.le_of_ble_eq_true rfl)) dL_law_683 ⟨by show _ ≤ 601024; omega, by show _ ≤ 7293034; omega⟩) (fun H locs hW hS => ?_)
  refine lv_iload hx hb dL_law_686 (lv_at hl 1 rfl) ?_
  refine lv_icmp_eq (tgt := 693) hx hb dL_law_688 (by decide) (fun _ => ?_) (fun c9 => absurd rfl c9)
  refine lv_iload hx hb dL_law_693 (lv_at hl 1 rfl) ?_
  refine lv_if_ne (tgt := 710) hx hb dL_law_695 (by decide) (fun _ => ?_) (fun c8 => ?_)
  · skip
    refine lv_goto (tgt := 1739) hx hb dL_law_710 (by decide) ?_
    refine W.widen (k := cc0 + 12) (n := ss0 + 80) (by omega) (by omega) ?_
    exact hk hI hW hS (lv_sub hl [2, 3, 4, 5, 6, 7] rfl)
  have h4 := h4 c8
  refine lv_aload_n hx hb dL_law_698 rfl (lv_at hl 5 rfl) ?_
  refine lv_iconst (v := 0) hx hb dL_law_699 (by decide) ?_
  refine z_lald hx hb hK hL hW hok dL_law_700 ?_
  refine lv_iload hx hb dL_law_701 (lv_at hl 0 rfl) ?_
  refine lv_i2l hx hb dL_law_703 rfl ?_
  refine z_lc_eq (tgt := 710) hx hb dL_law_704 dL_law_705 (by decide) (fun _ => ?_) (fun c9 => absurd h4 c9)
  refine lv_goto (tgt := 1739) hx hb dL_law_710 (by decide) ?_
  refine W.widen (k := cc0 + 12) (n := ss0 + 80) (by omega) (by omega) ?_
  exact hk hI hW hS (lv_sub hl [2, 3, 4, 5, 6, 7] rfl)
set_option maxRecDepth 100000 in
set_option maxHeartbeats 4000000 in
theorem law_c9 {p : Program} {l : Launch} {e : Env} {s : State} {m : MethodId} {args : Array Value} {below : List Frame} {meth : Method} {c : Code} {D : va_G} {cy : Nat → ClassId} {ad : Nat → Nat} {L : List Nat} {K len : Nat → Nat} {Q : State → Prop} (hlt : l.stackTraces = false) (C0 : zCx p s m c meth args cL_law 9 wsL_law RL (some .boolean) D cy ad L K) {b Lx : Nat} {xs : Nat → Int32} (hX : va_X b Lx xs s s.heap) (hbl : b < s.heap.size) (hbA : ¬ (zA ad L s.heap.size) b) (N : Nat) {I : ZM → Prop} (hKx : K 0 = 7) (hKm : K 112 = 8) (hok : zok K len 126 12 0 = true) (hokD : zok K len 127 17 0 = true) {cc0 ss0 : Nat} (hcc : cc0 + 12 ≤ 601024) (hss : ss0 + 80 ≤ 7293034) {x5 : Int32} {p1 : Int32} {p2 : Int32} {p3 : Int32} {p4 : Int32} (hi1 : vp_in (x5 + (1 : Int32)) Lx) (hp1 : xs (x5 + (1 : Int32)).toNatClampNeg = p1) (hi2 : vp_in (x5 + (2 : Int32)) Lx) (hp2 : xs (x5 + (2 : Int32)).toNatClampNeg = p2) (hi3 : vp_in (x5 + (3 : Int32)) Lx) (hp3 : xs (x5 + (3 : Int32)).toNatClampNeg = p3) (hi4 : vp_in (x5 + (4 : Int32)) Lx) (hp4 : xs (x5 + (4 : Int32)).toNatClampNeg = p4) {M M1 M2 : ZM} {k1 : Int32} {bv : Int32} (h1 : f_L_mark N K len 0 p1 p2 p3 p4 126 M = some (k1, M1)) (h2 : f_X7_mark N K len 112 p1 p2 p3 p4 M1 = some (bv, M2)) (h3 : f_X7_thrown N K len 112 M2 = some k1) (h4 : k1 = 0 → zJ M2 126 0 = bv.toInt64) (hI : I M2)
    (hk : ∀ {M : ZM}, I M → ∀ {H : Heap} {locs : List Loc} {ls : Array Slot}, zWd D cy ad L K len M H → va_S (zA ad L s.heap.size) s.heap H locs → lv_has ls 9 [(0, .ref b), (1, .ref (ad 0)), (2, .ref (ad 112)), (3, .ref (ad 126)), (4, .ref (ad 127)), (5, .int x5)] → W p l e room_1 s m args below meth c H locs (cc0 + 12) (ss0 + 80) Q (F0 m 1739 ls []))
    {H : Heap} {locs : List Loc} {ls : Array Slot} (hW : zWd D cy ad L K len M H) (hS : va_S (zA ad L s.heap.size) s.heap H locs) (hl : lv_has ls 9 [(0, .ref b), (1, .ref (ad 0)), (2, .ref (ad 112)), (3, .ref (ad 126)), (4, .ref (ad 127)), (5, .int x5)]) : W p l e room_1 s m args below meth c H locs cc0 ss0 Q (F0 m 713 ls []) := by
  obtain ⟨hx, hb, hr, hml, hown, hts, hlocks, hK, hL, hE⟩ := id C0
  refine lv_aload_n hx hb dL_law_713 rfl (lv_at hl 1 rfl) ?_
  refine lv_aload_n hx hb dL_law_714 rfl (lv_at hl 0 rfl) ?_
  refine lv_iload hx hb dL_law_715 (lv_at hl 5 rfl) ?_
  refine lv_iconst (v := 1) hx hb dL_law_717 (by decide) ?_
  refine lv_iadd hx hb dL_law_718 ?_
  refine va_sld hx hb hX hbl hbA hS hi1 dL_law_719 ?_
  rw [hp1]
  refine lv_aload_n hx hb dL_law_720 rfl (lv_at hl 0 rfl) ?_
  refine lv_iload hx hb dL_law_721 (lv_at hl 5 rfl) ?_
  refine lv_iconst (v := 2) hx hb dL_law_723 (by decide) ?_
  refine lv_iadd hx hb dL_law_724 ?_
  refine va_sld hx hb hX hbl hbA hS hi2 dL_law_725 ?_
  rw [hp2]
  refine lv_aload_n hx hb dL_law_726 rfl (lv_at hl 0 rfl) ?_
  refine lv_iload hx hb dL_law_727 (lv_at hl 5 rfl) ?_
  refine lv_iconst (v := 3) hx hb dL_law_729 (by decide) ?_
  refine lv_iadd hx hb dL_law_730 ?_
  refine va_sld hx hb hX hbl hbA hS hi3 dL_law_731 ?_
  rw [hp3]
  refine lv_aload_n hx hb dL_law_732 rfl (lv_at hl 0 rfl) ?_
  refine lv_iload hx hb dL_law_733 (lv_at hl 5 rfl) ?_
  refine lv_iconst (v := 4) hx hb dL_law_735 (by decide) ?_
  refine lv_iadd hx hb dL_law_736 ?_
  refine va_sld hx hb hX hbl hbA hS hi4 dL_law_737 ?_
  rw [hp4]
  refine lv_aload_n hx hb dL_law_738 rfl (lv_at hl 3 rfl) ?_
  refine z_calli hS (vx_runSW (As := [.ref (ad 0), .int p1, .int p2, .int p3, .int p4, .ref (ad 126)]) (rest := []) ⟨hx, hb, hml, hown, hts⟩ (m_L_mark l hlt hL N h1 H.size) (vx_cwSW (hh := [(0, 14, 17, 19), (0, 14, 21, 21), (0, 14, 25, 13)]) 6 hts gL_law_L_mark rfl rfl rfl (by decide +kernel) ⟨by decide +kernel, by decide +kernel⟩) (z_preS hK hE hW hS [.ref (ad 0), .int p1, .int p2, .int p3, .int p4, .ref (ad 126)]) rfl rfl hl.1 rfl (lv_room (Nat.le_of_ble_eq_true rfl)) dL_law_739 ⟨by show cc0 + 4 ≤ 601024; omega, by show ss0 + 24 ≤ 7293034; omega⟩) (fun H locs hW hS => ?_)
  refine W.widen (k := cc0 + 12) (n := ss0 + 80) (by omega) (by omega) ?_
  refine lv_istore (lv' := [(6, .int k1), (0, .ref b), (1, .ref (ad 0)), (2, .ref (ad 112)), (3, .ref (ad 126)), (4, .ref (ad 127)), (5, .int x5)]) hx hb dL_law_742 hl (by decide) rfl (fun ls hl => ?_)
  refine lv_aload_n hx hb dL_law_744 rfl (lv_at hl 3 rfl) ?_
  refine lv_aload_n hx hb dL_law_745 rfl (lv_at hl 1 rfl) ?_
  refine lv_iload hx hb dL_law_746 (lv_at hl 6 rfl) ?_
  refine lv_iconst (v := 1) hx hb dL_law_748 (by decide) ?_
  refine lv_iadd hx hb dL_law_749 ?_
  refine va_sld hx hb hX hbl hbA hS hi1 dL_law_750 ?_
  rw [hp1]
  refine lv_aload_n hx hb dL_law_751 rfl (lv_at hl 1 rfl) ?_
  refine lv_iload hx hb dL_law_752 (lv_at hl 6 rfl) ?_
  refine lv_iconst (v := 2) hx hb dL_law_754 (by decide) ?_
  refine lv_iadd hx hb dL_law_755 ?_
  refine va_sld hx hb hX hbl hbA hS hi2 dL_law_756 ?_
  rw [hp2]
  refine lv_aload_n hx hb dL_law_757 rfl (lv_at hl 1 rfl) ?_
  refine lv_iload hx hb dL_law_758 (lv_at hl 6 rfl) ?_
  refine lv_iconst (v := 3) hx hb dL_law_760 (by decide) ?_
  refine lv_iadd hx hb dL_law_761 ?_
  refine va_sld hx hb hX hbl hbA hS hi3 dL_law_762 ?_
  rw [hp3]
  refine lv_aload_n hx hb dL_law_763 rfl (lv_at hl 1 rfl) ?_
  refine lv_iload hx hb dL_law_764 (lv_at hl 6 rfl) ?_
  refine lv_iconst (v := 4) hx hb dL_law_766 (by decide) ?_
  refine lv_iadd hx hb dL_law_767 ?_
  refine va_sld hx hb hX hbl hbA hS hi4 dL_law_768 ?_
  rw [hp4]
  refine z_calli hS (va_runV (As := [.int p1, .int p2, .int p3, .int p4]) (rest := []) ⟨hx, hb, hml, hown, hts⟩ (m_X7_mark l hL N h2 H.size) (cwV 4 hts gL_law_X7_mark rfl rfl rfl (by decide +kernel) ⟨by decide +kernel, by decide +kernel⟩) (z_preV (q := (RX7, TX7, 20)) hK hL hE hW hS hKm (by decide) rfl [.int p1, .int p2, .int p3, .int p4]) rfl rfl hl.1 rfl (lv_room (Nat.le_of_ble_eq_true rfl)) dL_law_769 ⟨by show _ ≤ 601024; omega, by show _ ≤ 7293034; omega⟩) (fun H locs hW hS => ?_)
  refine lv_istore (lv' := [(7, .int bv), (6, .int k1), (0, .ref b), (1, .ref (ad 0)), (2, .ref (ad 112)), (3, .ref (ad 126)), (4, .ref (ad 127)), (5, .int x5)]) hx hb dL_law_772 hl (by decide) rfl (fun ls hl => ?_)
  refine lv_aload_n hx hb dL_law_774 rfl (lv_at hl 4 rfl) ?_
  refine z_calli hS (va_runV (As := []) (rest := []) ⟨hx, hb, hml, hown, hts⟩ (m_X7_thrown l hL N h3 H.size) (cwV 0 hts gL_law_X7_thrown rfl rfl rfl (by decide +kernel) ⟨by decide +kernel, by decide +kernel⟩) (z_preV (q := (RX7, TX7, 20)) hK hL hE hW hS hKm (by decide) rfl []) rfl rfl hl.1 rfl (lv_room (Nat.le_of_ble_eq_true rfl)) dL_law_775 ⟨by show _ ≤ 601024; omega, by show _ ≤ 7293034; omega⟩) (fun H locs hW hS => ?_)
  refine lv_iload hx hb dL_law_778 (lv_at hl 1 rfl) ?_
  refine lv_icmp_eq (tgt := 785) hx hb dL_law_780 (by decide) (fun _ => ?_) (fun c9 => absurd rfl c9)
  refine lv_iload hx hb dL_law_785 (lv_at hl 1 rfl) ?_
  refine lv_if_ne (tgt := 802) hx hb dL_law_787 (by decide) (fun _ => ?_) (fun c8 => ?_)
  · skip
    refine lv_goto (tgt := 1739) hx hb dL_law_802 (by decide) ?_
    refine W.widen (k := cc0 + 12) (n := ss0 + 80) (by omega) (by omega) ?_
    exact hk hI hW hS (lv_sub hl [2, 3, 4, 5, 6, 7] rfl)
  have h4 := h4 c8
  refine lv_aload_n hx hb dL_law_790 rfl (lv_at hl 5 rfl) ?_
  refine lv_iconst (v := 0) hx hb dL_law_791 (by decide) ?_
  refine z_lald hx hb hK hL hW hok dL_law_792 ?_
  refine lv_iload hx hb dL_law_793 (lv_at hl 0 rfl) ?_
  refine lv_i2l hx hb dL_law_795 rfl ?_
  refine z_lc_eq (tgt := 802) hx hb dL_law_796 dL_law_797 (by decide) (fun _ => ?_) (fun c9 => absurd h4 c9)
  refine lv_goto (tgt := 1739) hx hb dL_law_802 (by decide) ?_
  refine W.widen (k := cc0 + 12) (n := ss0 + 80) (by omega) (by omega) ?_
  exact hk hI hW hS (lv_sub hl [2, 3, 4, 5, 6, 7] rfl)
set_option maxRecDepth 100000 in
set_option maxHeartbeats 4000000 in
theorem law_c10 {p : Program} {l : Launch} {e : Env} {s : State} {m : MethodId} {args : Array Value} {below : List Frame} {meth : Method} {c : Code} {D : va_G} {cy : Nat → ClassId} {ad : Nat → Nat} {L : List Nat} {K len : Nat → Nat} {Q : State → Prop} (hlt : l.stackTraces = false) (C0 : zCx p s m c meth args cL_law 9 wsL_law RL (some .boolean) D cy ad L K) {b Lx : Nat} {xs : Nat → Int32} (hX : va_X b Lx xs s s.heap) (hbl : b < s.heap.size) (hbA : ¬ (zA ad L s.heap.size) b) (N : Nat) {I : ZM → Prop} (hKx : K 0 = 7) (hKm : K 112 = 8) (hok : zok K len 126 12 0 = true) (hokD : zok K len 127 17 0 = true) {cc0 ss0 : Nat} (hcc : cc0 + 12 ≤ 601024) (hss : ss0 + 80 ≤ 7293034) {x5 : Int32} {p1 : Int32} {p2 : Int32} (hi1 : vp_in (x5 + (1 : Int32)) Lx) (hp1 : xs (x5 + (1 : Int32)).toNatClampNeg = p1) (hi2 : vp_in (x5 + (2 : Int32)) Lx) (hp2 : xs (x5 + (2 : Int32)).toNatClampNeg = p2) {M M1 M2 : ZM} {k1 : Int32} {bv : Int32} (h1 : f_L_trees N K len 0 p1 (zb01 p2) 126 M = some (k1, M1)) (h2 : f_X7_trees N K len 112 p1 (zb01 p2) M1 = some (bv, M2)) (h3 : f_X7_thrown N K len 112 M2 = some k1) (h4 : k1 = 0 → zJ M2 126 0 = bv.toInt64) (hI : I M2)
    (hk : ∀ {M : ZM}, I M → ∀ {H : Heap} {locs : List Loc} {ls : Array Slot}, zWd D cy ad L K len M H → va_S (zA ad L s.heap.size) s.heap H locs → lv_has ls 9 [(0, .ref b), (1, .ref (ad 0)), (2, .ref (ad 112)), (3, .ref (ad 126)), (4, .ref (ad 127)), (5, .int x5)] → W p l e room_1 s m args below meth c H locs (cc0 + 12) (ss0 + 80) Q (F0 m 1739 ls []))
    {H : Heap} {locs : List Loc} {ls : Array Slot} (hW : zWd D cy ad L K len M H) (hS : va_S (zA ad L s.heap.size) s.heap H locs) (hl : lv_has ls 9 [(0, .ref b), (1, .ref (ad 0)), (2, .ref (ad 112)), (3, .ref (ad 126)), (4, .ref (ad 127)), (5, .int x5)]) : W p l e room_1 s m args below meth c H locs cc0 ss0 Q (F0 m 805 ls []) := by
  obtain ⟨hx, hb, hr, hml, hown, hts, hlocks, hK, hL, hE⟩ := id C0
  refine lv_aload_n hx hb dL_law_805 rfl (lv_at hl 1 rfl) ?_
  refine lv_aload_n hx hb dL_law_806 rfl (lv_at hl 0 rfl) ?_
  refine lv_iload hx hb dL_law_807 (lv_at hl 5 rfl) ?_
  refine lv_iconst (v := 1) hx hb dL_law_809 (by decide) ?_
  refine lv_iadd hx hb dL_law_810 ?_
  refine va_sld hx hb hX hbl hbA hS hi1 dL_law_811 ?_
  rw [hp1]
  refine lv_aload_n hx hb dL_law_812 rfl (lv_at hl 0 rfl) ?_
  refine lv_iload hx hb dL_law_813 (lv_at hl 5 rfl) ?_
  refine lv_iconst (v := 2) hx hb dL_law_815 (by decide) ?_
  refine lv_iadd hx hb dL_law_816 ?_
  refine va_sld hx hb hX hbl hbA hS hi2 dL_law_817 ?_
  rw [hp2]
  rcases (Decidable.em (p2 = 0)) with cb2 | cb2
  · have eb2 : zb01 p2 = 0 := if_pos cb2
    rw [eb2] at h1 h2
    refine lv_if_eq (tgt := 825) hx hb dL_law_818 (by decide) (fun _ => ?_) (fun c9 => absurd cb2 c9)
    refine lv_iconst (v := 0) hx hb dL_law_825 (by decide) ?_
    refine lv_aload_n hx hb dL_law_826 rfl (lv_at hl 3 rfl) ?_
    refine z_calli hS (vx_runSW (As := [.ref (ad 0), .int p1, .int (0 : Int32), .ref (ad 126)]) (rest := []) ⟨hx, hb, hml, hown, hts⟩ (m_L_trees l hlt hL N h1 H.size) (vx_cwSW (hh := [(0, 10, 13, 19)]) 4 hts gL_law_L_trees rfl rfl rfl (by decide +kernel) ⟨by decide +kernel, by decide +kernel⟩) (z_preS hK hE hW hS [.ref (ad 0), .int p1, .int (0 : Int32), .ref (ad 126)]) rfl rfl hl.1 rfl (lv_room (Nat.le_of_ble_eq_true rfl)) dL_law_827 ⟨by show cc0 + 1 ≤ 601024; omega, by show ss0 + 6 ≤ 7293034; omega⟩) (fun H locs hW hS => ?_)
    refine W.widen (k := cc0 + 12) (n := ss0 + 80) (by omega) (by omega) ?_
    refine lv_istore (lv' := [(6, .int k1), (0, .ref b), (1, .ref (ad 0)), (2, .ref (ad 112)), (3, .ref (ad 126)), (4, .ref (ad 127)), (5, .int x5)]) hx hb dL_law_830 hl (by decide) rfl (fun ls hl => ?_)
    refine lv_aload_n hx hb dL_law_832 rfl (lv_at hl 3 rfl) ?_
    refine lv_aload_n hx hb dL_law_833 rfl (lv_at hl 1 rfl) ?_
    refine lv_iload hx hb dL_law_834 (lv_at hl 6 rfl) ?_
    refine lv_iconst (v := 1) hx hb dL_law_836 (by decide) ?_
    refine lv_iadd hx hb dL_law_837 ?_
    refine va_sld hx hb hX hbl hbA hS hi1 dL_law_838 ?_
    rw [hp1]
    refine lv_aload_n hx hb dL_law_839 rfl (lv_at hl 1 rfl) ?_
    refine lv_iload hx hb dL_law_840 (lv_at hl 6 rfl) ?_
    refine lv_iconst (v := 2) hx hb dL_law_842 (by decide) ?_
    refine lv_iadd hx hb dL_law_843 ?_
    refine va_sld hx hb hX hbl hbA hS hi2 dL_law_844 ?_
    rw [hp2]
    refine lv_if_eq (tgt := 852) hx hb dL_law_845 (by decide) (fun _ => ?_) (fun c9 => absurd cb2 c9)
    refine lv_iconst (v := 0) hx hb dL_law_852 (by decide) ?_
    refine z_calli hS (va_runV (As := [.int p1, .int (0 : Int32)]) (rest := []) ⟨hx, hb, hml, hown, hts⟩ (m_X7_trees l hL N h2 H.size) (cwV 2 hts gL_law_X7_trees rfl rfl rfl (by decide +kernel) ⟨by decide +kernel, by decide +kernel⟩) (z_preV (q := (RX7, TX7, 20)) hK hL hE hW hS hKm (by decide) rfl [.int p1, .int (0 : Int32)]) rfl rfl hl.1 rfl (lv_room (Nat.le_of_ble_eq_true rfl)) dL_law_853 ⟨by show _ ≤ 601024; omega, by show _ ≤ 7293034; omega⟩) (fun H locs hW hS => ?_)
    refine lv_istore (lv' := [(7, .int bv), (6, .int k1), (0, .ref b), (1, .ref (ad 0)), (2, .ref (ad 112)), (3, .ref (ad 126)), (4, .ref (ad 127)), (5, .int x5)]) hx hb dL_law_856 hl (by decide) rfl (fun ls hl => ?_)
    refine lv_aload_n hx hb dL_law_858 rfl (lv_at hl 4 rfl) ?_
    refine z_calli hS (va_runV (As := []) (rest := []) ⟨hx, hb, hml, hown, hts⟩ (m_X7_thrown l hL N h3 H.size) (cwV 0 hts gL_law_X7_thrown rfl rfl rfl (by decide +kernel) ⟨by decide +kernel, by decide +kernel⟩) (z_preV (q := (RX7, TX7, 20)) hK hL hE hW hS hKm (by decide) rfl []) rfl rfl hl.1 rfl (lv_room (Nat.le_of_ble_eq_true rfl)) dL_law_859 ⟨by show _ ≤ 601024; omega, by show _ ≤ 7293034; omega⟩) (fun H locs hW hS => ?_)
    refine lv_iload hx hb dL_law_862 (lv_at hl 1 rfl) ?_
    refine lv_icmp_eq (tgt := 869) hx hb dL_law_864 (by decide) (fun _ => ?_) (fun c9 => absurd rfl c9)
    refine lv_iload hx hb dL_law_869 (lv_at hl 1 rfl) ?_
    refine lv_if_ne (tgt := 886) hx hb dL_law_871 (by decide) (fun _ => ?_) (fun c8 => ?_)
    · skip
      refine lv_goto (tgt := 1739) hx hb dL_law_886 (by decide) ?_
      refine W.widen (k := cc0 + 12) (n := ss0 + 80) (by omega) (by omega) ?_
      exact hk hI hW hS (lv_sub hl [2, 3, 4, 5, 6, 7] rfl)
    have h4 := h4 c8
    refine lv_aload_n hx hb dL_law_874 rfl (lv_at hl 5 rfl) ?_
    refine lv_iconst (v := 0) hx hb dL_law_875 (by decide) ?_
    refine z_lald hx hb hK hL hW hok dL_law_876 ?_
    refine lv_iload hx hb dL_law_877 (lv_at hl 0 rfl) ?_
    refine lv_i2l hx hb dL_law_879 rfl ?_
    refine z_lc_eq (tgt := 886) hx hb dL_law_880 dL_law_881 (by decide) (fun _ => ?_) (fun c9 => absurd h4 c9)
    refine lv_goto (tgt := 1739) hx hb dL_law_886 (by decide) ?_
    refine W.widen (k := cc0 + 12) (n := ss0 + 80) (by omega) (by omega) ?_
    exact hk hI hW hS (lv_sub hl [2, 3, 4, 5, 6, 7] rfl)
  · have eb2 : zb01 p2 = 1 := if_neg cb2
    rw [eb2] at h1 h2
    refine lv_if_eq (tgt := 825) hx hb dL_law_818 (by decide) (fun c9 => absurd c9 cb2) (fun _ => ?_)
    refine lv_iconst (v := 1) hx hb dL_law_821 (by decide) ?_
    refine lv_goto (tgt := 826) hx hb dL_law_822 (by decide) ?_
    refine lv_aload_n hx hb dL_law_826 rfl (lv_at hl 3 rfl) ?_
    refine z_calli hS (vx_runSW (As := [.ref (ad 0), .int p1, .int (1 : Int32), .ref (ad 126)]) (rest := []) ⟨hx, hb, hml, hown, hts⟩ (m_L_trees l hlt hL N h1 H.size) (vx_cwSW (hh := [(0, 10, 13, 19)]) 4 hts gL_law_L_trees rfl rfl rfl (by decide +kernel) ⟨by decide +kernel, by decide +kernel⟩) (z_preS hK hE hW hS [.ref (ad 0), .int p1, .int (1 : Int32), .ref (ad 126)]) rfl rfl hl.1 rfl (lv_room (Nat.le_of_ble_eq_true rfl)) dL_law_827 ⟨by show cc0 + 1 ≤ 601024; omega, by show ss0 + 6 ≤ 7293034; omega⟩) (fun H locs hW hS => ?_)
    refine W.widen (k := cc0 + 12) (n := ss0 + 80) (by omega) (by omega) ?_
    refine lv_istore (lv' := [(6, .int k1), (0, .ref b), (1, .ref (ad 0)), (2, .ref (ad 112)), (3, .ref (ad 126)), (4, .ref (ad 127)), (5, .int x5)]) hx hb dL_law_830 hl (by decide) rfl (fun ls hl => ?_)
    refine lv_aload_n hx hb dL_law_832 rfl (lv_at hl 3 rfl) ?_
    refine lv_aload_n hx hb dL_law_833 rfl (lv_at hl 1 rfl) ?_
    refine lv_iload hx hb dL_law_834 (lv_at hl 6 rfl) ?_
    refine lv_iconst (v := 1) hx hb dL_law_836 (by decide) ?_
    refine lv_iadd hx hb dL_law_837 ?_
    refine va_sld hx hb hX hbl hbA hS hi1 dL_law_838 ?_
    rw [hp1]
    refine lv_aload_n hx hb dL_law_839 rfl (lv_at hl 1 rfl) ?_
    refine lv_iload hx hb dL_law_840 (lv_at hl 6 rfl) ?_
    refine lv_iconst (v := 2) hx hb dL_law_842 (by decide) ?_
    refine lv_iadd hx hb dL_law_843 ?_
    refine va_sld hx hb hX hbl hbA hS hi2 dL_law_844 ?_
    rw [hp2]
    refine lv_if_eq (tgt := 852) hx hb dL_law_845 (by decide) (fun c9 => absurd c9 cb2) (fun _ => ?_)
    refine lv_iconst (v := 1) hx hb dL_law_848 (by decide) ?_
    refine lv_goto (tgt := 853) hx hb dL_law_849 (by decide) ?_
    refine z_calli hS (va_runV (As := [.int p1, .int (1 : Int32)]) (rest := []) ⟨hx, hb, hml, hown, hts⟩ (m_X7_trees l hL N h2 H.size) (cwV 2 hts gL_law_X7_trees rfl rfl rfl (by decide +kernel) ⟨by decide +kernel, by decide +kernel⟩) (z_preV (q := (RX7, TX7, 20)) hK hL hE hW hS hKm (by decide) rfl [.int p1, .int (1 : Int32)]) rfl rfl hl.1 rfl (lv_room (Nat.le_of_ble_eq_true rfl)) dL_law_853 ⟨by show _ ≤ 601024; omega, by show _ ≤ 7293034; omega⟩) (fun H locs hW hS => ?_)
    refine lv_istore (lv' := [(7, .int bv), (6, .int k1), (0, .ref b), (1, .ref (ad 0)), (2, .ref (ad 112)), (3, .ref (ad 126)), (4, .ref (ad 127)), (5, .int x5)]) hx hb dL_law_856 hl (by decide) rfl (fun ls hl => ?_)
    refine lv_aload_n hx hb dL_law_858 rfl (lv_at hl 4 rfl) ?_
    refine z_calli hS (va_runV (As := []) (rest := []) ⟨hx, hb, hml, hown, hts⟩ (m_X7_thrown l hL N h3 H.size) (cwV 0 hts gL_law_X7_thrown rfl rfl rfl (by decide +kernel) ⟨by decide +kernel, by decide +kernel⟩) (z_preV (q := (RX7, TX7, 20)) hK hL hE hW hS hKm (by decide) rfl []) rfl rfl hl.1 rfl (lv_room (Nat.le_of_ble_eq_true rfl)) dL_law_859 ⟨by show _ ≤ 601024; omega, by show _ ≤ 7293034; omega⟩) (fun H locs hW hS => ?_)
    refine lv_iload hx hb dL_law_862 (lv_at hl 1 rfl) ?_
    refine lv_icmp_eq (tgt := 869) hx hb dL_law_864 (by decide) (fun _ => ?_) (fun c9 => absurd rfl c9)
    refine lv_iload hx hb dL_law_869 (lv_at hl 1 rfl) ?_
    refine lv_if_ne (tgt := 886) hx hb dL_law_871 (by decide) (fun _ => ?_) (fun c8 => ?_)
    · skip
      refine lv_goto (tgt := 1739) hx hb dL_law_886 (by decide) ?_
      refine W.widen (k := cc0 + 12) (n := ss0 + 80) (by omega) (by omega) ?_
      exact hk hI hW hS (lv_sub hl [2, 3, 4, 5, 6, 7] rfl)
    have h4 := h4 c8
    refine lv_aload_n hx hb dL_law_874 rfl (lv_at hl 5 rfl) ?_
    refine lv_iconst (v := 0) hx hb dL_law_875 (by decide) ?_
    refine z_lald hx hb hK hL hW hok dL_law_876 ?_
    refine lv_iload hx hb dL_law_877 (lv_at hl 0 rfl) ?_
    refine lv_i2l hx hb dL_law_879 rfl ?_
    refine z_lc_eq (tgt := 886) hx hb dL_law_880 dL_law_881 (by decide) (fun _ => ?_) (fun c9 => absurd h4 c9)
    refine lv_goto (tgt := 1739) hx hb dL_law_886 (by decide) ?_
    refine W.widen (k := cc0 + 12) (n := ss0 + 80) (by omega) (by omega) ?_
    exact hk hI hW hS (lv_sub hl [2, 3, 4, 5, 6, 7] rfl)
set_option maxRecDepth 100000 in
set_option maxHeartbeats 4000000 in
theorem law_c11 {p : Program} {l : Launch} {e : Env} {s : State} {m : MethodId} {args : Array Value} {below : List Frame} {meth : Method} {c : Code} {D : va_G} {cy : Nat → ClassId} {ad : Nat → Nat} {L : List Nat} {K len : Nat → Nat} {Q : State → Prop} (hlt : l.stackTraces = false) (C0 : zCx p s m c meth args cL_law 9 wsL_law RL (some .boolean) D cy ad L K) {b Lx : Nat} {xs : Nat → Int32} (hX : va_X b Lx xs s s.heap) (hbl : b < s.heap.size) (hbA : ¬ (zA ad L s.heap.size) b) (N : Nat) {I : ZM → Prop} (hKx : K 0 = 7) (hKm : K 112 = 8) (hok : zok K len 126 12 0 = true) (hokD : zok K len 127 17 0 = true) {cc0 ss0 : Nat} (hcc : cc0 + 12 ≤ 601024) (hss : ss0 + 80 ≤ 7293034) {x5 : Int32} {p1 : Int32} {p2 : Int32} (hi1 : vp_in (x5 + (1 : Int32)) Lx) (hp1 : xs (x5 + (1 : Int32)).toNatClampNeg = p1) (hi2 : vp_in (x5 + (2 : Int32)) Lx) (hp2 : xs (x5 + (2 : Int32)).toNatClampNeg = p2) {M M1 M2 : ZM} {k1 : Int32} {bv : Int32} (h1 : f_L_best N K len 0 p1 (zb01 p2) 126 M = some (k1, M1)) (h2 : f_X7_best N K len 112 p1 (zb01 p2) M1 = some (bv, M2)) (h3 : f_X7_thrown N K len 112 M2 = some k1) (h4 : k1 = 0 → zJ M2 126 0 = bv.toInt64) (hI : I M2)
    (hk : ∀ {M : ZM}, I M → ∀ {H : Heap} {locs : List Loc} {ls : Array Slot}, zWd D cy ad L K len M H → va_S (zA ad L s.heap.size) s.heap H locs → lv_has ls 9 [(0, .ref b), (1, .ref (ad 0)), (2, .ref (ad 112)), (3, .ref (ad 126)), (4, .ref (ad 127)), (5, .int x5)] → W p l e room_1 s m args below meth c H locs (cc0 + 12) (ss0 + 80) Q (F0 m 1739 ls []))
    {H : Heap} {locs : List Loc} {ls : Array Slot} (hW : zWd D cy ad L K len M H) (hS : va_S (zA ad L s.heap.size) s.heap H locs) (hl : lv_has ls 9 [(0, .ref b), (1, .ref (ad 0)), (2, .ref (ad 112)), (3, .ref (ad 126)), (4, .ref (ad 127)), (5, .int x5)]) : W p l e room_1 s m args below meth c H locs cc0 ss0 Q (F0 m 889 ls []) := by
  obtain ⟨hx, hb, hr, hml, hown, hts, hlocks, hK, hL, hE⟩ := id C0
  refine lv_aload_n hx hb dL_law_889 rfl (lv_at hl 1 rfl) ?_
  refine lv_aload_n hx hb dL_law_890 rfl (lv_at hl 0 rfl) ?_
  refine lv_iload hx hb dL_law_891 (lv_at hl 5 rfl) ?_
  refine lv_iconst (v := 1) hx hb dL_law_893 (by decide) ?_
  refine lv_iadd hx hb dL_law_894 ?_
  refine va_sld hx hb hX hbl hbA hS hi1 dL_law_895 ?_
  rw [hp1]
  refine lv_aload_n hx hb dL_law_896 rfl (lv_at hl 0 rfl) ?_
  refine lv_iload hx hb dL_law_897 (lv_at hl 5 rfl) ?_
  refine lv_iconst (v := 2) hx hb dL_law_899 (by decide) ?_
  refine lv_iadd hx hb dL_law_900 ?_
  refine va_sld hx hb hX hbl hbA hS hi2 dL_law_901 ?_
  rw [hp2]
  rcases (Decidable.em (p2 = 0)) with cb2 | cb2
  · have eb2 : zb01 p2 = 0 := if_pos cb2
    rw [eb2] at h1 h2
    refine lv_if_eq (tgt := 909) hx hb dL_law_902 (by decide) (fun _ => ?_) (fun c9 => absurd cb2 c9)
    refine lv_iconst (v := 0) hx hb dL_law_909 (by decide) ?_
    refine lv_aload_n hx hb dL_law_910 rfl (lv_at hl 3 rfl) ?_
    refine z_calli hS (vx_runSW (As := [.ref (ad 0), .int p1, .int (0 : Int32), .ref (ad 126)]) (rest := []) ⟨hx, hb, hml, hown, hts⟩ (m_L_best l hlt hL N h1 H.size) (vx_cwSW (hh := [(0, 10, 13, 19), (0, 10, 17, 13)]) 4 hts gL_law_L_best rfl rfl rfl (by decide +kernel) ⟨by decide +kernel, by decide +kernel⟩) (z_preS hK hE hW hS [.ref (ad 0), .int p1, .int (0 : Int32), .ref (ad 126)]) rfl rfl hl.1 rfl (lv_room (Nat.le_of_ble_eq_true rfl)) dL_law_911 ⟨by show cc0 + 2 ≤ 601024; omega, by show ss0 + 12 ≤ 7293034; omega⟩) (fun H locs hW hS => ?_)
    refine W.widen (k := cc0 + 12) (n := ss0 + 80) (by omega) (by omega) ?_
    refine lv_istore (lv' := [(6, .int k1), (0, .ref b), (1, .ref (ad 0)), (2, .ref (ad 112)), (3, .ref (ad 126)), (4, .ref (ad 127)), (5, .int x5)]) hx hb dL_law_914 hl (by decide) rfl (fun ls hl => ?_)
    refine lv_aload_n hx hb dL_law_916 rfl (lv_at hl 3 rfl) ?_
    refine lv_aload_n hx hb dL_law_917 rfl (lv_at hl 1 rfl) ?_
    refine lv_iload hx hb dL_law_918 (lv_at hl 6 rfl) ?_
    refine lv_iconst (v := 1) hx hb dL_law_920 (by decide) ?_
    refine lv_iadd hx hb dL_law_921 ?_
    refine va_sld hx hb hX hbl hbA hS hi1 dL_law_922 ?_
    rw [hp1]
    refine lv_aload_n hx hb dL_law_923 rfl (lv_at hl 1 rfl) ?_
    refine lv_iload hx hb dL_law_924 (lv_at hl 6 rfl) ?_
    refine lv_iconst (v := 2) hx hb dL_law_926 (by decide) ?_
    refine lv_iadd hx hb dL_law_927 ?_
    refine va_sld hx hb hX hbl hbA hS hi2 dL_law_928 ?_
    rw [hp2]
    refine lv_if_eq (tgt := 936) hx hb dL_law_929 (by decide) (fun _ => ?_) (fun c9 => absurd cb2 c9)
    refine lv_iconst (v := 0) hx hb dL_law_936 (by decide) ?_
    refine z_calli hS (va_runV (As := [.int p1, .int (0 : Int32)]) (rest := []) ⟨hx, hb, hml, hown, hts⟩ (m_X7_best l hL N h2 H.size) (cwV 2 hts gL_law_X7_best rfl rfl rfl (by decide +kernel) ⟨by decide +kernel, by decide +kernel⟩) (z_preV (q := (RX7, TX7, 20)) hK hL hE hW hS hKm (by decide) rfl [.int p1, .int (0 : Int32)]) rfl rfl hl.1 rfl (lv_room (Nat.le_of_ble_eq_true rfl)) dL_law_937 ⟨by show _ ≤ 601024; omega, by show _ ≤ 7293034; omega⟩) (fun H locs hW hS => ?_)
    refine lv_istore (lv' := [(7, .int bv), (6, .int k1), (0, .ref b), (1, .ref (ad 0)), (2, .ref (ad 112)), (3, .ref (ad 126)), (4, .ref (ad 127)), (5, .int x5)]) hx hb dL_law_940 hl (by decide) rfl (fun ls hl => ?_)
    refine lv_aload_n hx hb dL_law_942 rfl (lv_at hl 4 rfl) ?_
    refine z_calli hS (va_runV (As := []) (rest := []) ⟨hx, hb, hml, hown, hts⟩ (m_X7_thrown l hL N h3 H.size) (cwV 0 hts gL_law_X7_thrown rfl rfl rfl (by decide +kernel) ⟨by decide +kernel, by decide +kernel⟩) (z_preV (q := (RX7, TX7, 20)) hK hL hE hW hS hKm (by decide) rfl []) rfl rfl hl.1 rfl (lv_room (Nat.le_of_ble_eq_true rfl)) dL_law_943 ⟨by show _ ≤ 601024; omega, by show _ ≤ 7293034; omega⟩) (fun H locs hW hS => ?_)
    refine lv_iload hx hb dL_law_946 (lv_at hl 1 rfl) ?_
    refine lv_icmp_eq (tgt := 953) hx hb dL_law_948 (by decide) (fun _ => ?_) (fun c9 => absurd rfl c9)
    refine lv_iload hx hb dL_law_953 (lv_at hl 1 rfl) ?_
    refine lv_if_ne (tgt := 970) hx hb dL_law_955 (by decide) (fun _ => ?_) (fun c8 => ?_)
    · skip
      refine lv_goto (tgt := 1739) hx hb dL_law_970 (by decide) ?_
      refine W.widen (k := cc0 + 12) (n := ss0 + 80) (by omega) (by omega) ?_
      exact hk hI hW hS (lv_sub hl [2, 3, 4, 5, 6, 7] rfl)
    have h4 := h4 c8
    refine lv_aload_n hx hb dL_law_958 rfl (lv_at hl 5 rfl) ?_
    refine lv_iconst (v := 0) hx hb dL_law_959 (by decide) ?_
    refine z_lald hx hb hK hL hW hok dL_law_960 ?_
    refine lv_iload hx hb dL_law_961 (lv_at hl 0 rfl) ?_
    refine lv_i2l hx hb dL_law_963 rfl ?_
    refine z_lc_eq (tgt := 970) hx hb dL_law_964 dL_law_965 (by decide) (fun _ => ?_) (fun c9 => absurd h4 c9)
    refine lv_goto (tgt := 1739) hx hb dL_law_970 (by decide) ?_
    refine W.widen (k := cc0 + 12) (n := ss0 + 80) (by omega) (by omega) ?_
    exact hk hI hW hS (lv_sub hl [2, 3, 4, 5, 6, 7] rfl)
  · have eb2 : zb01 p2 = 1 := if_neg cb2
    rw [eb2] at h1 h2
    refine lv_if_eq (tgt := 909) hx hb dL_law_902 (by decide) (fun c9 => absurd c9 cb2) (fun _ => ?_)
    refine lv_iconst (v := 1) hx hb dL_law_905 (by decide) ?_
    refine lv_goto (tgt := 910) hx hb dL_law_906 (by decide) ?_
    refine lv_aload_n hx hb dL_law_910 rfl (lv_at hl 3 rfl) ?_
    refine z_calli hS (vx_runSW (As := [.ref (ad 0), .int p1, .int (1 : Int32), .ref (ad 126)]) (rest := []) ⟨hx, hb, hml, hown, hts⟩ (m_L_best l hlt hL N h1 H.size) (vx_cwSW (hh := [(0, 10, 13, 19), (0, 10, 17, 13)]) 4 hts gL_law_L_best rfl rfl rfl (by decide +kernel) ⟨by decide +kernel, by decide +kernel⟩) (z_preS hK hE hW hS [.ref (ad 0), .int p1, .int (1 : Int32), .ref (ad 126)]) rfl rfl hl.1 rfl (lv_room (Nat.le_of_ble_eq_true rfl)) dL_law_911 ⟨by show cc0 + 2 ≤ 601024; omega, by show ss0 + 12 ≤ 7293034; omega⟩) (fun H locs hW hS => ?_)
    refine W.widen (k := cc0 + 12) (n := ss0 + 80) (by omega) (by omega) ?_
    refine lv_istore (lv' := [(6, .int k1), (0, .ref b), (1, .ref (ad 0)), (2, .ref (ad 112)), (3, .ref (ad 126)), (4, .ref (ad 127)), (5, .int x5)]) hx hb dL_law_914 hl (by decide) rfl (fun ls hl => ?_)
    refine lv_aload_n hx hb dL_law_916 rfl (lv_at hl 3 rfl) ?_
    refine lv_aload_n hx hb dL_law_917 rfl (lv_at hl 1 rfl) ?_
    refine lv_iload hx hb dL_law_918 (lv_at hl 6 rfl) ?_
    refine lv_iconst (v := 1) hx hb dL_law_920 (by decide) ?_
    refine lv_iadd hx hb dL_law_921 ?_
    refine va_sld hx hb hX hbl hbA hS hi1 dL_law_922 ?_
    rw [hp1]
    refine lv_aload_n hx hb dL_law_923 rfl (lv_at hl 1 rfl) ?_
    refine lv_iload hx hb dL_law_924 (lv_at hl 6 rfl) ?_
    refine lv_iconst (v := 2) hx hb dL_law_926 (by decide) ?_
    refine lv_iadd hx hb dL_law_927 ?_
    refine va_sld hx hb hX hbl hbA hS hi2 dL_law_928 ?_
    rw [hp2]
    refine lv_if_eq (tgt := 936) hx hb dL_law_929 (by decide) (fun c9 => absurd c9 cb2) (fun _ => ?_)
    refine lv_iconst (v := 1) hx hb dL_law_932 (by decide) ?_
    refine lv_goto (tgt := 937) hx hb dL_law_933 (by decide) ?_
    refine z_calli hS (va_runV (As := [.int p1, .int (1 : Int32)]) (rest := []) ⟨hx, hb, hml, hown, hts⟩ (m_X7_best l hL N h2 H.size) (cwV 2 hts gL_law_X7_best rfl rfl rfl (by decide +kernel) ⟨by decide +kernel, by decide +kernel⟩) (z_preV (q := (RX7, TX7, 20)) hK hL hE hW hS hKm (by decide) rfl [.int p1, .int (1 : Int32)]) rfl rfl hl.1 rfl (lv_room (Nat.le_of_ble_eq_true rfl)) dL_law_937 ⟨by show _ ≤ 601024; omega, by show _ ≤ 7293034; omega⟩) (fun H locs hW hS => ?_)
    refine lv_istore (lv' := [(7, .int bv), (6, .int k1), (0, .ref b), (1, .ref (ad 0)), (2, .ref (ad 112)), (3, .ref (ad 126)), (4, .ref (ad 127)), (5, .int x5)]) hx hb dL_law_940 hl (by decide) rfl (fun ls hl => ?_)
    refine lv_aload_n hx hb dL_law_942 rfl (lv_at hl 4 rfl) ?_
    refine z_calli hS (va_runV (As := []) (rest := []) ⟨hx, hb, hml, hown, hts⟩ (m_X7_thrown l hL N h3 H.size) (cwV 0 hts gL_law_X7_thrown rfl rfl rfl (by decide +kernel) ⟨by decide +kernel, by decide +kernel⟩) (z_preV (q := (RX7, TX7, 20)) hK hL hE hW hS hKm (by decide) rfl []) rfl rfl hl.1 rfl (lv_room (Nat.le_of_ble_eq_true rfl)) dL_law_943 ⟨by show _ ≤ 601024; omega, by show _ ≤ 7293034; omega⟩) (fun H locs hW hS => ?_)
    refine lv_iload hx hb dL_law_946 (lv_at hl 1 rfl) ?_
    refine lv_icmp_eq (tgt := 953) hx hb dL_law_948 (by decide) (fun _ => ?_) (fun c9 => absurd rfl c9)
    refine lv_iload hx hb dL_law_953 (lv_at hl 1 rfl) ?_
    refine lv_if_ne (tgt := 970) hx hb dL_law_955 (by decide) (fun _ => ?_) (fun c8 => ?_)
    · skip
      refine lv_goto (tgt := 1739) hx hb dL_law_970 (by decide) ?_
      refine W.widen (k := cc0 + 12) (n := ss0 + 80) (by omega) (by omega) ?_
      exact hk hI hW hS (lv_sub hl [2, 3, 4, 5, 6, 7] rfl)
    have h4 := h4 c8
    refine lv_aload_n hx hb dL_law_958 rfl (lv_at hl 5 rfl) ?_
    refine lv_iconst (v := 0) hx hb dL_law_959 (by decide) ?_
    refine z_lald hx hb hK hL hW hok dL_law_960 ?_
    refine lv_iload hx hb dL_law_961 (lv_at hl 0 rfl) ?_
    refine lv_i2l hx hb dL_law_963 rfl ?_
    refine z_lc_eq (tgt := 970) hx hb dL_law_964 dL_law_965 (by decide) (fun _ => ?_) (fun c9 => absurd h4 c9)
    refine lv_goto (tgt := 1739) hx hb dL_law_970 (by decide) ?_
    refine W.widen (k := cc0 + 12) (n := ss0 + 80) (by omega) (by omega) ?_
    exact hk hI hW hS (lv_sub hl [2, 3, 4, 5, 6, 7] rfl)
set_option maxRecDepth 100000 in
set_option maxHeartbeats 4000000 in
theorem law_c12 {p : Program} {l : Launch} {e : Env} {s : State} {m : MethodId} {args : Array Value} {below : List Frame} {meth : Method} {c : Code} {D : va_G} {cy : Nat → ClassId} {ad : Nat → Nat} {L : List Nat} {K len : Nat → Nat} {Q : State → Prop} (hlt : l.stackTraces = false) (C0 : zCx p s m c meth args cL_law 9 wsL_law RL (some .boolean) D cy ad L K) {b Lx : Nat} {xs : Nat → Int32} (hX : va_X b Lx xs s s.heap) (hbl : b < s.heap.size) (hbA : ¬ (zA ad L s.heap.size) b) (N : Nat) {I : ZM → Prop} (hKx : K 0 = 7) (hKm : K 112 = 8) (hok : zok K len 126 12 0 = true) (hokD : zok K len 127 17 0 = true) {cc0 ss0 : Nat} (hcc : cc0 + 12 ≤ 601024) (hss : ss0 + 80 ≤ 7293034) {x5 : Int32} {p1 : Int32} {p2 : Int32} (hi1 : vp_in (x5 + (1 : Int32)) Lx) (hp1 : xs (x5 + (1 : Int32)).toNatClampNeg = p1) (hi2 : vp_in (x5 + (2 : Int32)) Lx) (hp2 : xs (x5 + (2 : Int32)).toNatClampNeg = p2) {M M1 M2 : ZM} {k1 : Int32} {bv : Int32} (h1 : f_L_bestByTrying N K len 0 p1 (zb01 p2) 126 M = some (k1, M1)) (h2 : f_X7_bestByTrying N K len 112 p1 (zb01 p2) M1 = some (bv, M2)) (h3 : f_X7_thrown N K len 112 M2 = some k1) (h4 : k1 = 0 → zJ M2 126 0 = bv.toInt64) (hI : I M2)
    (hk : ∀ {M : ZM}, I M → ∀ {H : Heap} {locs : List Loc} {ls : Array Slot}, zWd D cy ad L K len M H → va_S (zA ad L s.heap.size) s.heap H locs → lv_has ls 9 [(0, .ref b), (1, .ref (ad 0)), (2, .ref (ad 112)), (3, .ref (ad 126)), (4, .ref (ad 127)), (5, .int x5)] → W p l e room_1 s m args below meth c H locs (cc0 + 12) (ss0 + 80) Q (F0 m 1739 ls []))
    {H : Heap} {locs : List Loc} {ls : Array Slot} (hW : zWd D cy ad L K len M H) (hS : va_S (zA ad L s.heap.size) s.heap H locs) (hl : lv_has ls 9 [(0, .ref b), (1, .ref (ad 0)), (2, .ref (ad 112)), (3, .ref (ad 126)), (4, .ref (ad 127)), (5, .int x5)]) : W p l e room_1 s m args below meth c H locs cc0 ss0 Q (F0 m 973 ls []) := by
  obtain ⟨hx, hb, hr, hml, hown, hts, hlocks, hK, hL, hE⟩ := id C0
  refine lv_aload_n hx hb dL_law_973 rfl (lv_at hl 1 rfl) ?_
  refine lv_aload_n hx hb dL_law_974 rfl (lv_at hl 0 rfl) ?_
  refine lv_iload hx hb dL_law_975 (lv_at hl 5 rfl) ?_
  refine lv_iconst (v := 1) hx hb dL_law_977 (by decide) ?_
  refine lv_iadd hx hb dL_law_978 ?_
  refine va_sld hx hb hX hbl hbA hS hi1 dL_law_979 ?_
  rw [hp1]
  refine lv_aload_n hx hb dL_law_980 rfl (lv_at hl 0 rfl) ?_
  refine lv_iload hx hb dL_law_981 (lv_at hl 5 rfl) ?_
  refine lv_iconst (v := 2) hx hb dL_law_983 (by decide) ?_
  refine lv_iadd hx hb dL_law_984 ?_
  refine va_sld hx hb hX hbl hbA hS hi2 dL_law_985 ?_
  rw [hp2]
  rcases (Decidable.em (p2 = 0)) with cb2 | cb2
  · have eb2 : zb01 p2 = 0 := if_pos cb2
    rw [eb2] at h1 h2
    refine lv_if_eq (tgt := 993) hx hb dL_law_986 (by decide) (fun _ => ?_) (fun c9 => absurd cb2 c9)
    refine lv_iconst (v := 0) hx hb dL_law_993 (by decide) ?_
    refine lv_aload_n hx hb dL_law_994 rfl (lv_at hl 3 rfl) ?_
    refine z_calli hS (vx_runSW (As := [.ref (ad 0), .int p1, .int (0 : Int32), .ref (ad 126)]) (rest := []) ⟨hx, hb, hml, hown, hts⟩ (m_L_bestByTrying l hlt hL N h1 H.size) (vx_cwSW (hh := [(0, 10, 13, 19), (0, 10, 17, 13)]) 4 hts gL_law_L_bestByTrying rfl rfl rfl (by decide +kernel) ⟨by decide +kernel, by decide +kernel⟩) (z_preS hK hE hW hS [.ref (ad 0), .int p1, .int (0 : Int32), .ref (ad 126)]) rfl rfl hl.1 rfl (lv_room (Nat.le_of_ble_eq_true rfl)) dL_law_995 ⟨by show cc0 + 2 ≤ 601024; omega, by show ss0 + 12 ≤ 7293034; omega⟩) (fun H locs hW hS => ?_)
    refine W.widen (k := cc0 + 12) (n := ss0 + 80) (by omega) (by omega) ?_
    refine lv_istore (lv' := [(6, .int k1), (0, .ref b), (1, .ref (ad 0)), (2, .ref (ad 112)), (3, .ref (ad 126)), (4, .ref (ad 127)), (5, .int x5)]) hx hb dL_law_998 hl (by decide) rfl (fun ls hl => ?_)
    refine lv_aload_n hx hb dL_law_1000 rfl (lv_at hl 3 rfl) ?_
    refine lv_aload_n hx hb dL_law_1001 rfl (lv_at hl 1 rfl) ?_
    refine lv_iload hx hb dL_law_1002 (lv_at hl 6 rfl) ?_
    refine lv_iconst (v := 1) hx hb dL_law_1004 (by decide) ?_
    refine lv_iadd hx hb dL_law_1005 ?_
    refine va_sld hx hb hX hbl hbA hS hi1 dL_law_1006 ?_
    rw [hp1]
    refine lv_aload_n hx hb dL_law_1007 rfl (lv_at hl 1 rfl) ?_
    refine lv_iload hx hb dL_law_1008 (lv_at hl 6 rfl) ?_
    refine lv_iconst (v := 2) hx hb dL_law_1010 (by decide) ?_
    refine lv_iadd hx hb dL_law_1011 ?_
    refine va_sld hx hb hX hbl hbA hS hi2 dL_law_1012 ?_
    rw [hp2]
    refine lv_if_eq (tgt := 1020) hx hb dL_law_1013 (by decide) (fun _ => ?_) (fun c9 => absurd cb2 c9)
    refine lv_iconst (v := 0) hx hb dL_law_1020 (by decide) ?_
    refine z_calli hS (va_runV (As := [.int p1, .int (0 : Int32)]) (rest := []) ⟨hx, hb, hml, hown, hts⟩ (m_X7_bestByTrying l hL N h2 H.size) (cwV 2 hts gL_law_X7_bestByTrying rfl rfl rfl (by decide +kernel) ⟨by decide +kernel, by decide +kernel⟩) (z_preV (q := (RX7, TX7, 20)) hK hL hE hW hS hKm (by decide) rfl [.int p1, .int (0 : Int32)]) rfl rfl hl.1 rfl (lv_room (Nat.le_of_ble_eq_true rfl)) dL_law_1021 ⟨by show _ ≤ 601024; omega, by show _ ≤ 7293034; omega⟩) (fun H locs hW hS => ?_)
    refine lv_istore (lv' := [(7, .int bv), (6, .int k1), (0, .ref b), (1, .ref (ad 0)), (2, .ref (ad 112)), (3, .ref (ad 126)), (4, .ref (ad 127)), (5, .int x5)]) hx hb dL_law_1024 hl (by decide) rfl (fun ls hl => ?_)
    refine lv_aload_n hx hb dL_law_1026 rfl (lv_at hl 4 rfl) ?_
    refine z_calli hS (va_runV (As := []) (rest := []) ⟨hx, hb, hml, hown, hts⟩ (m_X7_thrown l hL N h3 H.size) (cwV 0 hts gL_law_X7_thrown rfl rfl rfl (by decide +kernel) ⟨by decide +kernel, by decide +kernel⟩) (z_preV (q := (RX7, TX7, 20)) hK hL hE hW hS hKm (by decide) rfl []) rfl rfl hl.1 rfl (lv_room (Nat.le_of_ble_eq_true rfl)) dL_law_1027 ⟨by show _ ≤ 601024; omega, by show _ ≤ 7293034; omega⟩) (fun H locs hW hS => ?_)
    refine lv_iload hx hb dL_law_1030 (lv_at hl 1 rfl) ?_
    refine lv_icmp_eq (tgt := 1037) hx hb dL_law_1032 (by decide) (fun _ => ?_) (fun c9 => absurd rfl c9)
    refine lv_iload hx hb dL_law_1037 (lv_at hl 1 rfl) ?_
    refine lv_if_ne (tgt := 1054) hx hb dL_law_1039 (by decide) (fun _ => ?_) (fun c8 => ?_)
    · skip
      refine lv_goto (tgt := 1739) hx hb dL_law_1054 (by decide) ?_
      refine W.widen (k := cc0 + 12) (n := ss0 + 80) (by omega) (by omega) ?_
      exact hk hI hW hS (lv_sub hl [2, 3, 4, 5, 6, 7] rfl)
    have h4 := h4 c8
    refine lv_aload_n hx hb dL_law_1042 rfl (lv_at hl 5 rfl) ?_
    refine lv_iconst (v := 0) hx hb dL_law_1043 (by decide) ?_
    refine z_lald hx hb hK hL hW hok dL_law_1044 ?_
    refine lv_iload hx hb dL_law_1045 (lv_at hl 0 rfl) ?_
    refine lv_i2l hx hb dL_law_1047 rfl ?_
    refine z_lc_eq (tgt := 1054) hx hb dL_law_1048 dL_law_1049 (by decide) (fun _ => ?_) (fun c9 => absurd h4 c9)
    refine lv_goto (tgt := 1739) hx hb dL_law_1054 (by decide) ?_
    refine W.widen (k := cc0 + 12) (n := ss0 + 80) (by omega) (by omega) ?_
    exact hk hI hW hS (lv_sub hl [2, 3, 4, 5, 6, 7] rfl)
  · have eb2 : zb01 p2 = 1 := if_neg cb2
    rw [eb2] at h1 h2
    refine lv_if_eq (tgt := 993) hx hb dL_law_986 (by decide) (fun c9 => absurd c9 cb2) (fun _ => ?_)
    refine lv_iconst (v := 1) hx hb dL_law_989 (by decide) ?_
    refine lv_goto (tgt := 994) hx hb dL_law_990 (by decide) ?_
    refine lv_aload_n hx hb dL_law_994 rfl (lv_at hl 3 rfl) ?_
    refine z_calli hS (vx_runSW (As := [.ref (ad 0), .int p1, .int (1 : Int32), .ref (ad 126)]) (rest := []) ⟨hx, hb, hml, hown, hts⟩ (m_L_bestByTrying l hlt hL N h1 H.size) (vx_cwSW (hh := [(0, 10, 13, 19), (0, 10, 17, 13)]) 4 hts gL_law_L_bestByTrying rfl rfl rfl (by decide +kernel) ⟨by decide +kernel, by decide +kernel⟩) (z_preS hK hE hW hS [.ref (ad 0), .int p1, .int (1 : Int32), .ref (ad 126)]) rfl rfl hl.1 rfl (lv_room (Nat.le_of_ble_eq_true rfl)) dL_law_995 ⟨by show cc0 + 2 ≤ 601024; omega, by show ss0 + 12 ≤ 7293034; omega⟩) (fun H locs hW hS => ?_)
    refine W.widen (k := cc0 + 12) (n := ss0 + 80) (by omega) (by omega) ?_
    refine lv_istore (lv' := [(6, .int k1), (0, .ref b), (1, .ref (ad 0)), (2, .ref (ad 112)), (3, .ref (ad 126)), (4, .ref (ad 127)), (5, .int x5)]) hx hb dL_law_998 hl (by decide) rfl (fun ls hl => ?_)
    refine lv_aload_n hx hb dL_law_1000 rfl (lv_at hl 3 rfl) ?_
    refine lv_aload_n hx hb dL_law_1001 rfl (lv_at hl 1 rfl) ?_
    refine lv_iload hx hb dL_law_1002 (lv_at hl 6 rfl) ?_
    refine lv_iconst (v := 1) hx hb dL_law_1004 (by decide) ?_
    refine lv_iadd hx hb dL_law_1005 ?_
    refine va_sld hx hb hX hbl hbA hS hi1 dL_law_1006 ?_
    rw [hp1]
    refine lv_aload_n hx hb dL_law_1007 rfl (lv_at hl 1 rfl) ?_
    refine lv_iload hx hb dL_law_1008 (lv_at hl 6 rfl) ?_
    refine lv_iconst (v := 2) hx hb dL_law_1010 (by decide) ?_
    refine lv_iadd hx hb dL_law_1011 ?_
    refine va_sld hx hb hX hbl hbA hS hi2 dL_law_1012 ?_
    rw [hp2]
    refine lv_if_eq (tgt := 1020) hx hb dL_law_1013 (by decide) (fun c9 => absurd c9 cb2) (fun _ => ?_)
    refine lv_iconst (v := 1) hx hb dL_law_1016 (by decide) ?_
    refine lv_goto (tgt := 1021) hx hb dL_law_1017 (by decide) ?_
    refine z_calli hS (va_runV (As := [.int p1, .int (1 : Int32)]) (rest := []) ⟨hx, hb, hml, hown, hts⟩ (m_X7_bestByTrying l hL N h2 H.size) (cwV 2 hts gL_law_X7_bestByTrying rfl rfl rfl (by decide +kernel) ⟨by decide +kernel, by decide +kernel⟩) (z_preV (q := (RX7, TX7, 20)) hK hL hE hW hS hKm (by decide) rfl [.int p1, .int (1 : Int32)]) rfl rfl hl.1 rfl (lv_room (Nat.le_of_ble_eq_true rfl)) dL_law_1021 ⟨by show _ ≤ 601024; omega, by show _ ≤ 7293034; omega⟩) (fun H locs hW hS => ?_)
    refine lv_istore (lv' := [(7, .int bv), (6, .int k1), (0, .ref b), (1, .ref (ad 0)), (2, .ref (ad 112)), (3, .ref (ad 126)), (4, .ref (ad 127)), (5, .int x5)]) hx hb dL_law_1024 hl (by decide) rfl (fun ls hl => ?_)
    refine lv_aload_n hx hb dL_law_1026 rfl (lv_at hl 4 rfl) ?_
    refine z_calli hS (va_runV (As := []) (rest := []) ⟨hx, hb, hml, hown, hts⟩ (m_X7_thrown l hL N h3 H.size) (cwV 0 hts gL_law_X7_thrown rfl rfl rfl (by decide +kernel) ⟨by decide +kernel, by decide +kernel⟩) (z_preV (q := (RX7, TX7, 20)) hK hL hE hW hS hKm (by decide) rfl []) rfl rfl hl.1 rfl (lv_room (Nat.le_of_ble_eq_true rfl)) dL_law_1027 ⟨by show _ ≤ 601024; omega, by show _ ≤ 7293034; omega⟩) (fun H locs hW hS => ?_)
    refine lv_iload hx hb dL_law_1030 (lv_at hl 1 rfl) ?_
    refine lv_icmp_eq (tgt := 1037) hx hb dL_law_1032 (by decide) (fun _ => ?_) (fun c9 => absurd rfl c9)
    refine lv_iload hx hb dL_law_1037 (lv_at hl 1 rfl) ?_
    refine lv_if_ne (tgt := 1054) hx hb dL_law_1039 (by decide) (fun _ => ?_) (fun c8 => ?_)
    · skip
      refine lv_goto (tgt := 1739) hx hb dL_law_1054 (by decide) ?_
      refine W.widen (k := cc0 + 12) (n := ss0 + 80) (by omega) (by omega) ?_
      exact hk hI hW hS (lv_sub hl [2, 3, 4, 5, 6, 7] rfl)
    have h4 := h4 c8
    refine lv_aload_n hx hb dL_law_1042 rfl (lv_at hl 5 rfl) ?_
    refine lv_iconst (v := 0) hx hb dL_law_1043 (by decide) ?_
    refine z_lald hx hb hK hL hW hok dL_law_1044 ?_
    refine lv_iload hx hb dL_law_1045 (lv_at hl 0 rfl) ?_
    refine lv_i2l hx hb dL_law_1047 rfl ?_
    refine z_lc_eq (tgt := 1054) hx hb dL_law_1048 dL_law_1049 (by decide) (fun _ => ?_) (fun c9 => absurd h4 c9)
    refine lv_goto (tgt := 1739) hx hb dL_law_1054 (by decide) ?_
    refine W.widen (k := cc0 + 12) (n := ss0 + 80) (by omega) (by omega) ?_
    exact hk hI hW hS (lv_sub hl [2, 3, 4, 5, 6, 7] rfl)
set_option maxRecDepth 100000 in
set_option maxHeartbeats 4000000 in
theorem law_c13 {p : Program} {l : Launch} {e : Env} {s : State} {m : MethodId} {args : Array Value} {below : List Frame} {meth : Method} {c : Code} {D : va_G} {cy : Nat → ClassId} {ad : Nat → Nat} {L : List Nat} {K len : Nat → Nat} {Q : State → Prop} (hlt : l.stackTraces = false) (C0 : zCx p s m c meth args cL_law 9 wsL_law RL (some .boolean) D cy ad L K) {b Lx : Nat} {xs : Nat → Int32} (hX : va_X b Lx xs s s.heap) (hbl : b < s.heap.size) (hbA : ¬ (zA ad L s.heap.size) b) (N : Nat) {I : ZM → Prop} (hKx : K 0 = 7) (hKm : K 112 = 8) (hok : zok K len 126 12 0 = true) (hokD : zok K len 127 17 0 = true) {cc0 ss0 : Nat} (hcc : cc0 + 12 ≤ 601024) (hss : ss0 + 80 ≤ 7293034) {x5 : Int32} {p1 : Int32} {p2 : Int32} {p3 : Int32} (hi1 : vp_in (x5 + (1 : Int32)) Lx) (hp1 : xs (x5 + (1 : Int32)).toNatClampNeg = p1) (hi2 : vp_in (x5 + (2 : Int32)) Lx) (hp2 : xs (x5 + (2 : Int32)).toNatClampNeg = p2) (hi3 : vp_in (x5 + (3 : Int32)) Lx) (hp3 : xs (x5 + (3 : Int32)).toNatClampNeg = p3) {M M1 M2 : ZM} {k1 : Int32} {bv : Int32} (h1 : f_L_head N K len 0 p1 (zb01 p2) p3 126 M = some (k1, M1)) (h2 : f_X7_head N K len 112 p1 (zb01 p2) p3 M1 = some (bv, M2)) (h3 : f_X7_thrown N K len 112 M2 = some k1) (h4 : k1 = 0 → zJ M2 126 0 = bv.toInt64) (hI : I M2)
    (hk : ∀ {M : ZM}, I M → ∀ {H : Heap} {locs : List Loc} {ls : Array Slot}, zWd D cy ad L K len M H → va_S (zA ad L s.heap.size) s.heap H locs → lv_has ls 9 [(0, .ref b), (1, .ref (ad 0)), (2, .ref (ad 112)), (3, .ref (ad 126)), (4, .ref (ad 127)), (5, .int x5)] → W p l e room_1 s m args below meth c H locs (cc0 + 12) (ss0 + 80) Q (F0 m 1739 ls []))
    {H : Heap} {locs : List Loc} {ls : Array Slot} (hW : zWd D cy ad L K len M H) (hS : va_S (zA ad L s.heap.size) s.heap H locs) (hl : lv_has ls 9 [(0, .ref b), (1, .ref (ad 0)), (2, .ref (ad 112)), (3, .ref (ad 126)), (4, .ref (ad 127)), (5, .int x5)]) : W p l e room_1 s m args below meth c H locs cc0 ss0 Q (F0 m 1057 ls []) := by
  obtain ⟨hx, hb, hr, hml, hown, hts, hlocks, hK, hL, hE⟩ := id C0
  refine lv_aload_n hx hb dL_law_1057 rfl (lv_at hl 1 rfl) ?_
  refine lv_aload_n hx hb dL_law_1058 rfl (lv_at hl 0 rfl) ?_
  refine lv_iload hx hb dL_law_1059 (lv_at hl 5 rfl) ?_
  refine lv_iconst (v := 1) hx hb dL_law_1061 (by decide) ?_
  refine lv_iadd hx hb dL_law_1062 ?_
  refine va_sld hx hb hX hbl hbA hS hi1 dL_law_1063 ?_
  rw [hp1]
  refine lv_aload_n hx hb dL_law_1064 rfl (lv_at hl 0 rfl) ?_
  refine lv_iload hx hb dL_law_1065 (lv_at hl 5 rfl) ?_
  refine lv_iconst (v := 2) hx hb dL_law_1067 (by decide) ?_
  refine lv_iadd hx hb dL_law_1068 ?_
  refine va_sld hx hb hX hbl hbA hS hi2 dL_law_1069 ?_
  rw [hp2]
  rcases (Decidable.em (p2 = 0)) with cb2 | cb2
  · have eb2 : zb01 p2 = 0 := if_pos cb2
    rw [eb2] at h1 h2
    refine lv_if_eq (tgt := 1077) hx hb dL_law_1070 (by decide) (fun _ => ?_) (fun c9 => absurd cb2 c9)
    refine lv_iconst (v := 0) hx hb dL_law_1077 (by decide) ?_
    refine lv_aload_n hx hb dL_law_1078 rfl (lv_at hl 0 rfl) ?_
    refine lv_iload hx hb dL_law_1079 (lv_at hl 5 rfl) ?_
    refine lv_iconst (v := 3) hx hb dL_law_1081 (by decide) ?_
    refine lv_iadd hx hb dL_law_1082 ?_
    refine va_sld hx hb hX hbl hbA hS hi3 dL_law_1083 ?_
    rw [hp3]
    refine lv_aload_n hx hb dL_law_1084 rfl (lv_at hl 3 rfl) ?_
    refine z_calli hS (vx_runSW (As := [.ref (ad 0), .int p1, .int (0 : Int32), .int p3, .ref (ad 126)]) (rest := []) ⟨hx, hb, hml, hown, hts⟩ (m_L_head l hlt hL N h1 H.size) (vx_cwSW (hh := [(0, 12, 15, 19), (0, 12, 19, 13)]) 5 hts gL_law_L_head rfl rfl rfl (by decide +kernel) ⟨by decide +kernel, by decide +kernel⟩) (z_preS hK hE hW hS [.ref (ad 0), .int p1, .int (0 : Int32), .int p3, .ref (ad 126)]) rfl rfl hl.1 rfl (lv_room (Nat.le_of_ble_eq_true rfl)) dL_law_1085 ⟨by show cc0 + 3 ≤ 601024; omega, by show ss0 + 18 ≤ 7293034; omega⟩) (fun H locs hW hS => ?_)
    refine W.widen (k := cc0 + 12) (n := ss0 + 80) (by omega) (by omega) ?_
    refine lv_istore (lv' := [(6, .int k1), (0, .ref b), (1, .ref (ad 0)), (2, .ref (ad 112)), (3, .ref (ad 126)), (4, .ref (ad 127)), (5, .int x5)]) hx hb dL_law_1088 hl (by decide) rfl (fun ls hl => ?_)
    refine lv_aload_n hx hb dL_law_1090 rfl (lv_at hl 3 rfl) ?_
    refine lv_aload_n hx hb dL_law_1091 rfl (lv_at hl 1 rfl) ?_
    refine lv_iload hx hb dL_law_1092 (lv_at hl 6 rfl) ?_
    refine lv_iconst (v := 1) hx hb dL_law_1094 (by decide) ?_
    refine lv_iadd hx hb dL_law_1095 ?_
    refine va_sld hx hb hX hbl hbA hS hi1 dL_law_1096 ?_
    rw [hp1]
    refine lv_aload_n hx hb dL_law_1097 rfl (lv_at hl 1 rfl) ?_
    refine lv_iload hx hb dL_law_1098 (lv_at hl 6 rfl) ?_
    refine lv_iconst (v := 2) hx hb dL_law_1100 (by decide) ?_
    refine lv_iadd hx hb dL_law_1101 ?_
    refine va_sld hx hb hX hbl hbA hS hi2 dL_law_1102 ?_
    rw [hp2]
    refine lv_if_eq (tgt := 1110) hx hb dL_law_1103 (by decide) (fun _ => ?_) (fun c9 => absurd cb2 c9)
    refine lv_iconst (v := 0) hx hb dL_law_1110 (by decide) ?_
    refine lv_aload_n hx hb dL_law_1111 rfl (lv_at hl 1 rfl) ?_
    refine lv_iload hx hb dL_law_1112 (lv_at hl 6 rfl) ?_
    refine lv_iconst (v := 3) hx hb dL_law_1114 (by decide) ?_
    refine lv_iadd hx hb dL_law_1115 ?_
    refine va_sld hx hb hX hbl hbA hS hi3 dL_law_1116 ?_
    rw [hp3]
    refine z_calli hS (va_runV (As := [.int p1, .int (0 : Int32), .int p3]) (rest := []) ⟨hx, hb, hml, hown, hts⟩ (m_X7_head l hL N h2 H.size) (cwV 3 hts gL_law_X7_head rfl rfl rfl (by decide +kernel) ⟨by decide +kernel, by decide +kernel⟩) (z_preV (q := (RX7, TX7, 20)) hK hL hE hW hS hKm (by decide) rfl [.int p1, .int (0 : Int32), .int p3]) rfl rfl hl.1 rfl (lv_room (Nat.le_of_ble_eq_true rfl)) dL_law_1117 ⟨by show _ ≤ 601024; omega, by show _ ≤ 7293034; omega⟩) (fun H locs hW hS => ?_)
    refine lv_istore (lv' := [(7, .int bv), (6, .int k1), (0, .ref b), (1, .ref (ad 0)), (2, .ref (ad 112)), (3, .ref (ad 126)), (4, .ref (ad 127)), (5, .int x5)]) hx hb dL_law_1120 hl (by decide) rfl (fun ls hl => ?_)
    refine lv_aload_n hx hb dL_law_1122 rfl (lv_at hl 4 rfl) ?_
    refine z_calli hS (va_runV (As := []) (rest := []) ⟨hx, hb, hml, hown, hts⟩ (m_X7_thrown l hL N h3 H.size) (cwV 0 hts gL_law_X7_thrown rfl rfl rfl (by decide +kernel) ⟨by decide +kernel, by decide +kernel⟩) (z_preV (q := (RX7, TX7, 20)) hK hL hE hW hS hKm (by decide) rfl []) rfl rfl hl.1 rfl (lv_room (Nat.le_of_ble_eq_true rfl)) dL_law_1123 ⟨by show _ ≤ 601024; omega, by show _ ≤ 7293034; omega⟩) (fun H locs hW hS => ?_)
    refine lv_iload hx hb dL_law_1126 (lv_at hl 1 rfl) ?_
    refine lv_icmp_eq (tgt := 1133) hx hb dL_law_1128 (by decide) (fun _ => ?_) (fun c9 => absurd rfl c9)
    refine lv_iload hx hb dL_law_1133 (lv_at hl 1 rfl) ?_
    refine lv_if_ne (tgt := 1150) hx hb dL_law_1135 (by decide) (fun _ => ?_) (fun c8 => ?_)
    · skip
      refine lv_goto (tgt := 1739) hx hb dL_law_1150 (by decide) ?_
      refine W.widen (k := cc0 + 12) (n := ss0 + 80) (by omega) (by omega) ?_
      exact hk hI hW hS (lv_sub hl [2, 3, 4, 5, 6, 7] rfl)
    have h4 := h4 c8
    refine lv_aload_n hx hb dL_law_1138 rfl (lv_at hl 5 rfl) ?_
    refine lv_iconst (v := 0) hx hb dL_law_1139 (by decide) ?_
    refine z_lald hx hb hK hL hW hok dL_law_1140 ?_
    refine lv_iload hx hb dL_law_1141 (lv_at hl 0 rfl) ?_
    refine lv_i2l hx hb dL_law_1143 rfl ?_
    refine z_lc_eq (tgt := 1150) hx hb dL_law_1144 dL_law_1145 (by decide) (fun _ => ?_) (fun c9 => absurd h4 c9)
    refine lv_goto (tgt := 1739) hx hb dL_law_1150 (by decide) ?_
    refine W.widen (k := cc0 + 12) (n := ss0 + 80) (by omega) (by omega) ?_
    exact hk hI hW hS (lv_sub hl [2, 3, 4, 5, 6, 7] rfl)
  · have eb2 : zb01 p2 = 1 := if_neg cb2
    rw [eb2] at h1 h2
    refine lv_if_eq (tgt := 1077) hx hb dL_law_1070 (by decide) (fun c9 => absurd c9 cb2) (fun _ => ?_)
    refine lv_iconst (v := 1) hx hb dL_law_1073 (by decide) ?_
    refine lv_goto (tgt := 1078) hx hb dL_law_1074 (by decide) ?_
    refine lv_aload_n hx hb dL_law_1078 rfl (lv_at hl 0 rfl) ?_
    refine lv_iload hx hb dL_law_1079 (lv_at hl 5 rfl) ?_
    refine lv_iconst (v := 3) hx hb dL_law_1081 (by decide) ?_
    refine lv_iadd hx hb dL_law_1082 ?_
    refine va_sld hx hb hX hbl hbA hS hi3 dL_law_1083 ?_
    rw [hp3]
    refine lv_aload_n hx hb dL_law_1084 rfl (lv_at hl 3 rfl) ?_
    refine z_calli hS (vx_runSW (As := [.ref (ad 0), .int p1, .int (1 : Int32), .int p3, .ref (ad 126)]) (rest := []) ⟨hx, hb, hml, hown, hts⟩ (m_L_head l hlt hL N h1 H.size) (vx_cwSW (hh := [(0, 12, 15, 19), (0, 12, 19, 13)]) 5 hts gL_law_L_head rfl rfl rfl (by decide +kernel) ⟨by decide +kernel, by decide +kernel⟩) (z_preS hK hE hW hS [.ref (ad 0), .int p1, .int (1 : Int32), .int p3, .ref (ad 126)]) rfl rfl hl.1 rfl (lv_room (Nat.le_of_ble_eq_true rfl)) dL_law_1085 ⟨by show cc0 + 3 ≤ 601024; omega, by show ss0 + 18 ≤ 7293034; omega⟩) (fun H locs hW hS => ?_)
    refine W.widen (k := cc0 + 12) (n := ss0 + 80) (by omega) (by omega) ?_
    refine lv_istore (lv' := [(6, .int k1), (0, .ref b), (1, .ref (ad 0)), (2, .ref (ad 112)), (3, .ref (ad 126)), (4, .ref (ad 127)), (5, .int x5)]) hx hb dL_law_1088 hl (by decide) rfl (fun ls hl => ?_)
    refine lv_aload_n hx hb dL_law_1090 rfl (lv_at hl 3 rfl) ?_
    refine lv_aload_n hx hb dL_law_1091 rfl (lv_at hl 1 rfl) ?_
    refine lv_iload hx hb dL_law_1092 (lv_at hl 6 rfl) ?_
    refine lv_iconst (v := 1) hx hb dL_law_1094 (by decide) ?_
    refine lv_iadd hx hb dL_law_1095 ?_
    refine va_sld hx hb hX hbl hbA hS hi1 dL_law_1096 ?_
    rw [hp1]
    refine lv_aload_n hx hb dL_law_1097 rfl (lv_at hl 1 rfl) ?_
    refine lv_iload hx hb dL_law_1098 (lv_at hl 6 rfl) ?_
    refine lv_iconst (v := 2) hx hb dL_law_1100 (by decide) ?_
    refine lv_iadd hx hb dL_law_1101 ?_
    refine va_sld hx hb hX hbl hbA hS hi2 dL_law_1102 ?_
    rw [hp2]
    refine lv_if_eq (tgt := 1110) hx hb dL_law_1103 (by decide) (fun c9 => absurd c9 cb2) (fun _ => ?_)
    refine lv_iconst (v := 1) hx hb dL_law_1106 (by decide) ?_
    refine lv_goto (tgt := 1111) hx hb dL_law_1107 (by decide) ?_
    refine lv_aload_n hx hb dL_law_1111 rfl (lv_at hl 1 rfl) ?_
    refine lv_iload hx hb dL_law_1112 (lv_at hl 6 rfl) ?_
    refine lv_iconst (v := 3) hx hb dL_law_1114 (by decide) ?_
    refine lv_iadd hx hb dL_law_1115 ?_
    refine va_sld hx hb hX hbl hbA hS hi3 dL_law_1116 ?_
    rw [hp3]
    refine z_calli hS (va_runV (As := [.int p1, .int (1 : Int32), .int p3]) (rest := []) ⟨hx, hb, hml, hown, hts⟩ (m_X7_head l hL N h2 H.size) (cwV 3 hts gL_law_X7_head rfl rfl rfl (by decide +kernel) ⟨by decide +kernel, by decide +kernel⟩) (z_preV (q := (RX7, TX7, 20)) hK hL hE hW hS hKm (by decide) rfl [.int p1, .int (1 : Int32), .int p3]) rfl rfl hl.1 rfl (lv_room (Nat.le_of_ble_eq_true rfl)) dL_law_1117 ⟨by show _ ≤ 601024; omega, by show _ ≤ 7293034; omega⟩) (fun H locs hW hS => ?_)
    refine lv_istore (lv' := [(7, .int bv), (6, .int k1), (0, .ref b), (1, .ref (ad 0)), (2, .ref (ad 112)), (3, .ref (ad 126)), (4, .ref (ad 127)), (5, .int x5)]) hx hb dL_law_1120 hl (by decide) rfl (fun ls hl => ?_)
    refine lv_aload_n hx hb dL_law_1122 rfl (lv_at hl 4 rfl) ?_
    refine z_calli hS (va_runV (As := []) (rest := []) ⟨hx, hb, hml, hown, hts⟩ (m_X7_thrown l hL N h3 H.size) (cwV 0 hts gL_law_X7_thrown rfl rfl rfl (by decide +kernel) ⟨by decide +kernel, by decide +kernel⟩) (z_preV (q := (RX7, TX7, 20)) hK hL hE hW hS hKm (by decide) rfl []) rfl rfl hl.1 rfl (lv_room (Nat.le_of_ble_eq_true rfl)) dL_law_1123 ⟨by show _ ≤ 601024; omega, by show _ ≤ 7293034; omega⟩) (fun H locs hW hS => ?_)
    refine lv_iload hx hb dL_law_1126 (lv_at hl 1 rfl) ?_
    refine lv_icmp_eq (tgt := 1133) hx hb dL_law_1128 (by decide) (fun _ => ?_) (fun c9 => absurd rfl c9)
    refine lv_iload hx hb dL_law_1133 (lv_at hl 1 rfl) ?_
    refine lv_if_ne (tgt := 1150) hx hb dL_law_1135 (by decide) (fun _ => ?_) (fun c8 => ?_)
    · skip
      refine lv_goto (tgt := 1739) hx hb dL_law_1150 (by decide) ?_
      refine W.widen (k := cc0 + 12) (n := ss0 + 80) (by omega) (by omega) ?_
      exact hk hI hW hS (lv_sub hl [2, 3, 4, 5, 6, 7] rfl)
    have h4 := h4 c8
    refine lv_aload_n hx hb dL_law_1138 rfl (lv_at hl 5 rfl) ?_
    refine lv_iconst (v := 0) hx hb dL_law_1139 (by decide) ?_
    refine z_lald hx hb hK hL hW hok dL_law_1140 ?_
    refine lv_iload hx hb dL_law_1141 (lv_at hl 0 rfl) ?_
    refine lv_i2l hx hb dL_law_1143 rfl ?_
    refine z_lc_eq (tgt := 1150) hx hb dL_law_1144 dL_law_1145 (by decide) (fun _ => ?_) (fun c9 => absurd h4 c9)
    refine lv_goto (tgt := 1739) hx hb dL_law_1150 (by decide) ?_
    refine W.widen (k := cc0 + 12) (n := ss0 + 80) (by omega) (by omega) ?_
    exact hk hI hW hS (lv_sub hl [2, 3, 4, 5, 6, 7] rfl)
set_option maxRecDepth 100000 in
set_option maxHeartbeats 4000000 in
theorem law_c14 {p : Program} {l : Launch} {e : Env} {s : State} {m : MethodId} {args : Array Value} {below : List Frame} {meth : Method} {c : Code} {D : va_G} {cy : Nat → ClassId} {ad : Nat → Nat} {L : List Nat} {K len : Nat → Nat} {Q : State → Prop} (hlt : l.stackTraces = false) (C0 : zCx p s m c meth args cL_law 9 wsL_law RL (some .boolean) D cy ad L K) {b Lx : Nat} {xs : Nat → Int32} (hX : va_X b Lx xs s s.heap) (hbl : b < s.heap.size) (hbA : ¬ (zA ad L s.heap.size) b) (N : Nat) {I : ZM → Prop} (hKx : K 0 = 7) (hKm : K 112 = 8) (hok : zok K len 126 12 0 = true) (hokD : zok K len 127 17 0 = true) {cc0 ss0 : Nat} (hcc : cc0 + 12 ≤ 601024) (hss : ss0 + 80 ≤ 7293034) {x5 : Int32} {p1 : Int32} (hi1 : vp_in (x5 + (1 : Int32)) Lx) (hp1 : xs (x5 + (1 : Int32)).toNatClampNeg = p1) {M M1 M2 : ZM} {k1 : Int32} {bv : Int32} (h1 : f_L_crossings N K len 0 p1 126 M = some (k1, M1)) (h2 : f_X7_crossings N K len 112 p1 M1 = some (bv, M2)) (h3 : f_X7_thrown N K len 112 M2 = some k1) (h4 : k1 = 0 → zJ M2 126 0 = bv.toInt64) (hI : I M2)
    (hk : ∀ {M : ZM}, I M → ∀ {H : Heap} {locs : List Loc} {ls : Array Slot}, zWd D cy ad L K len M H → va_S (zA ad L s.heap.size) s.heap H locs → lv_has ls 9 [(0, .ref b), (1, .ref (ad 0)), (2, .ref (ad 112)), (3, .ref (ad 126)), (4, .ref (ad 127)), (5, .int x5)] → W p l e room_1 s m args below meth c H locs (cc0 + 12) (ss0 + 80) Q (F0 m 1739 ls []))
    {H : Heap} {locs : List Loc} {ls : Array Slot} (hW : zWd D cy ad L K len M H) (hS : va_S (zA ad L s.heap.size) s.heap H locs) (hl : lv_has ls 9 [(0, .ref b), (1, .ref (ad 0)), (2, .ref (ad 112)), (3, .ref (ad 126)), (4, .ref (ad 127)), (5, .int x5)]) : W p l e room_1 s m args below meth c H locs cc0 ss0 Q (F0 m 1153 ls []) := by
  obtain ⟨hx, hb, hr, hml, hown, hts, hlocks, hK, hL, hE⟩ := id C0
  refine lv_aload_n hx hb dL_law_1153 rfl (lv_at hl 1 rfl) ?_
  refine lv_aload_n hx hb dL_law_1154 rfl (lv_at hl 0 rfl) ?_
  refine lv_iload hx hb dL_law_1155 (lv_at hl 5 rfl) ?_
  refine lv_iconst (v := 1) hx hb dL_law_1157 (by decide) ?_
  refine lv_iadd hx hb dL_law_1158 ?_
  refine va_sld hx hb hX hbl hbA hS hi1 dL_law_1159 ?_
  rw [hp1]
  refine lv_aload_n hx hb dL_law_1160 rfl (lv_at hl 3 rfl) ?_
  refine z_calli hS (vx_runSW (As := [.ref (ad 0), .int p1, .ref (ad 126)]) (rest := []) ⟨hx, hb, hml, hown, hts⟩ (m_L_crossings l hlt hL N h1 H.size) (vx_cwSW (hh := [(0, 9, 12, 19), (0, 9, 15, 13)]) 3 hts gL_law_L_crossings rfl rfl rfl (by decide +kernel) ⟨by decide +kernel, by decide +kernel⟩) (z_preS hK hE hW hS [.ref (ad 0), .int p1, .ref (ad 126)]) rfl rfl hl.1 rfl (lv_room (Nat.le_of_ble_eq_true rfl)) dL_law_1161 ⟨by show cc0 + 2 ≤ 601024; omega, by show ss0 + 12 ≤ 7293034; omega⟩) (fun H locs hW hS => ?_)
  refine W.widen (k := cc0 + 12) (n := ss0 + 80) (by omega) (by omega) ?_
  refine lv_istore (lv' := [(6, .int k1), (0, .ref b), (1, .ref (ad 0)), (2, .ref (ad 112)), (3, .ref (ad 126)), (4, .ref (ad 127)), (5, .int x5)]) hx hb dL_law_1164 hl (by decide) rfl (fun ls hl => ?_)
  refine lv_aload_n hx hb dL_law_1166 rfl (lv_at hl 3 rfl) ?_
  refine lv_aload_n hx hb dL_law_1167 rfl (lv_at hl 1 rfl) ?_
  refine lv_iload hx hb dL_law_1168 (lv_at hl 6 rfl) ?_
  refine lv_iconst (v := 1) hx hb dL_law_1170 (by decide) ?_
  refine lv_iadd hx hb dL_law_1171 ?_
  refine va_sld hx hb hX hbl hbA hS hi1 dL_law_1172 ?_
  rw [hp1]
  refine z_calli hS (va_runV (As := [.int p1]) (rest := []) ⟨hx, hb, hml, hown, hts⟩ (m_X7_crossings l hL N h2 H.size) (cwV 1 hts gL_law_X7_crossings rfl rfl rfl (by decide +kernel) ⟨by decide +kernel, by decide +kernel⟩) (z_preV (q := (RX7, TX7, 20)) hK hL hE hW hS hKm (by decide) rfl [.int p1]) rfl rfl hl.1 rfl (lv_room (Nat.le_of_ble_eq_true rfl)) dL_law_1173 ⟨by show _ ≤ 601024; omega, by show _ ≤ 7293034; omega⟩) (fun H locs hW hS => ?_)
  refine lv_istore (lv' := [(7, .int bv), (6, .int k1), (0, .ref b), (1, .ref (ad 0)), (2, .ref (ad 112)), (3, .ref (ad 126)), (4, .ref (ad 127)), (5, .int x5)]) hx hb dL_law_1176 hl (by decide) rfl (fun ls hl => ?_)
  refine lv_aload_n hx hb dL_law_1178 rfl (lv_at hl 4 rfl) ?_
  refine z_calli hS (va_runV (As := []) (rest := []) ⟨hx, hb, hml, hown, hts⟩ (m_X7_thrown l hL N h3 H.size) (cwV 0 hts gL_law_X7_thrown rfl rfl rfl (by decide +kernel) ⟨by decide +kernel, by decide +kernel⟩) (z_preV (q := (RX7, TX7, 20)) hK hL hE hW hS hKm (by decide) rfl []) rfl rfl hl.1 rfl (lv_room (Nat.le_of_ble_eq_true rfl)) dL_law_1179 ⟨by show _ ≤ 601024; omega, by show _ ≤ 7293034; omega⟩) (fun H locs hW hS => ?_)
  refine lv_iload hx hb dL_law_1182 (lv_at hl 1 rfl) ?_
  refine lv_icmp_eq (tgt := 1189) hx hb dL_law_1184 (by decide) (fun _ => ?_) (fun c9 => absurd rfl c9)
  refine lv_iload hx hb dL_law_1189 (lv_at hl 1 rfl) ?_
  refine lv_if_ne (tgt := 1206) hx hb dL_law_1191 (by decide) (fun _ => ?_) (fun c8 => ?_)
  · skip
    refine lv_goto (tgt := 1739) hx hb dL_law_1206 (by decide) ?_
    refine W.widen (k := cc0 + 12) (n := ss0 + 80) (by omega) (by omega) ?_
    exact hk hI hW hS (lv_sub hl [2, 3, 4, 5, 6, 7] rfl)
  have h4 := h4 c8
  refine lv_aload_n hx hb dL_law_1194 rfl (lv_at hl 5 rfl) ?_
  refine lv_iconst (v := 0) hx hb dL_law_1195 (by decide) ?_
  refine z_lald hx hb hK hL hW hok dL_law_1196 ?_
  refine lv_iload hx hb dL_law_1197 (lv_at hl 0 rfl) ?_
  refine lv_i2l hx hb dL_law_1199 rfl ?_
  refine z_lc_eq (tgt := 1206) hx hb dL_law_1200 dL_law_1201 (by decide) (fun _ => ?_) (fun c9 => absurd h4 c9)
  refine lv_goto (tgt := 1739) hx hb dL_law_1206 (by decide) ?_
  refine W.widen (k := cc0 + 12) (n := ss0 + 80) (by omega) (by omega) ?_
  exact hk hI hW hS (lv_sub hl [2, 3, 4, 5, 6, 7] rfl)
set_option maxRecDepth 100000 in
set_option maxHeartbeats 4000000 in
theorem law_c15 {p : Program} {l : Launch} {e : Env} {s : State} {m : MethodId} {args : Array Value} {below : List Frame} {meth : Method} {c : Code} {D : va_G} {cy : Nat → ClassId} {ad : Nat → Nat} {L : List Nat} {K len : Nat → Nat} {Q : State → Prop} (hlt : l.stackTraces = false) (C0 : zCx p s m c meth args cL_law 9 wsL_law RL (some .boolean) D cy ad L K) {b Lx : Nat} {xs : Nat → Int32} (hX : va_X b Lx xs s s.heap) (hbl : b < s.heap.size) (hbA : ¬ (zA ad L s.heap.size) b) (N : Nat) {I : ZM → Prop} (hKx : K 0 = 7) (hKm : K 112 = 8) (hok : zok K len 126 12 0 = true) (hokD : zok K len 127 17 0 = true) {cc0 ss0 : Nat} (hcc : cc0 + 12 ≤ 601024) (hss : ss0 + 80 ≤ 7293034) {x5 : Int32} {p1 : Int32} {p2 : Int32} {p3 : Int32} (hi1 : vp_in (x5 + (1 : Int32)) Lx) (hp1 : xs (x5 + (1 : Int32)).toNatClampNeg = p1) (hi2 : vp_in (x5 + (2 : Int32)) Lx) (hp2 : xs (x5 + (2 : Int32)).toNatClampNeg = p2) (hi3 : vp_in (x5 + (3 : Int32)) Lx) (hp3 : xs (x5 + (3 : Int32)).toNatClampNeg = p3) {M M1 M2 : ZM} {k1 : Int32} {bv : Int32} (h1 : f_L_ranked N K len 0 p1 (zb01 p2) p3 126 M = some (k1, M1)) (h2 : f_X7_ranked N K len 112 p1 (zb01 p2) p3 M1 = some (bv, M2)) (h3 : f_X7_thrown N K len 112 M2 = some k1) (h4 : k1 = 0 → zJ M2 126 0 = bv.toInt64) (hI : I M2)
    (hk : ∀ {M : ZM}, I M → ∀ {H : Heap} {locs : List Loc} {ls : Array Slot}, zWd D cy ad L K len M H → va_S (zA ad L s.heap.size) s.heap H locs → lv_has ls 9 [(0, .ref b), (1, .ref (ad 0)), (2, .ref (ad 112)), (3, .ref (ad 126)), (4, .ref (ad 127)), (5, .int x5)] → W p l e room_1 s m args below meth c H locs (cc0 + 12) (ss0 + 80) Q (F0 m 1739 ls []))
    {H : Heap} {locs : List Loc} {ls : Array Slot} (hW : zWd D cy ad L K len M H) (hS : va_S (zA ad L s.heap.size) s.heap H locs) (hl : lv_has ls 9 [(0, .ref b), (1, .ref (ad 0)), (2, .ref (ad 112)), (3, .ref (ad 126)), (4, .ref (ad 127)), (5, .int x5)]) : W p l e room_1 s m args below meth c H locs cc0 ss0 Q (F0 m 1209 ls []) := by
  obtain ⟨hx, hb, hr, hml, hown, hts, hlocks, hK, hL, hE⟩ := id C0
  refine lv_aload_n hx hb dL_law_1209 rfl (lv_at hl 1 rfl) ?_
  refine lv_aload_n hx hb dL_law_1210 rfl (lv_at hl 0 rfl) ?_
  refine lv_iload hx hb dL_law_1211 (lv_at hl 5 rfl) ?_
  refine lv_iconst (v := 1) hx hb dL_law_1213 (by decide) ?_
  refine lv_iadd hx hb dL_law_1214 ?_
  refine va_sld hx hb hX hbl hbA hS hi1 dL_law_1215 ?_
  rw [hp1]
  refine lv_aload_n hx hb dL_law_1216 rfl (lv_at hl 0 rfl) ?_
  refine lv_iload hx hb dL_law_1217 (lv_at hl 5 rfl) ?_
  refine lv_iconst (v := 2) hx hb dL_law_1219 (by decide) ?_
  refine lv_iadd hx hb dL_law_1220 ?_
  refine va_sld hx hb hX hbl hbA hS hi2 dL_law_1221 ?_
  rw [hp2]
  rcases (Decidable.em (p2 = 0)) with cb2 | cb2
  · have eb2 : zb01 p2 = 0 := if_pos cb2
    rw [eb2] at h1 h2
    refine lv_if_eq (tgt := 1229) hx hb dL_law_1222 (by decide) (fun _ => ?_) (fun c9 => absurd cb2 c9)
    refine lv_iconst (v := 0) hx hb dL_law_1229 (by decide) ?_
    refine lv_aload_n hx hb dL_law_1230 rfl (lv_at hl 0 rfl) ?_
    refine lv_iload hx hb dL_law_1231 (lv_at hl 5 rfl) ?_
    refine lv_iconst (v := 3) hx hb dL_law_1233 (by decide) ?_
    refine lv_iadd hx hb dL_law_1234 ?_
    refine va_sld hx hb hX hbl hbA hS hi3 dL_law_1235 ?_
    rw [hp3]
    refine lv_aload_n hx hb dL_law_1236 rfl (lv_at hl 3 rfl) ?_
    refine z_calli hS (vx_runSW (As := [.ref (ad 0), .int p1, .int (0 : Int32), .int p3, .ref (ad 126)]) (rest := []) ⟨hx, hb, hml, hown, hts⟩ (m_L_ranked l hlt hL N h1 H.size) (vx_cwSW (hh := [(0, 12, 15, 19)]) 5 hts gL_law_L_ranked rfl rfl rfl (by decide +kernel) ⟨by decide +kernel, by decide +kernel⟩) (z_preS hK hE hW hS [.ref (ad 0), .int p1, .int (0 : Int32), .int p3, .ref (ad 126)]) rfl rfl hl.1 rfl (lv_room (Nat.le_of_ble_eq_true rfl)) dL_law_1237 ⟨by show cc0 + 2 ≤ 601024; omega, by show ss0 + 12 ≤ 7293034; omega⟩) (fun H locs hW hS => ?_)
    refine W.widen (k := cc0 + 12) (n := ss0 + 80) (by omega) (by omega) ?_
    refine lv_istore (lv' := [(6, .int k1), (0, .ref b), (1, .ref (ad 0)), (2, .ref (ad 112)), (3, .ref (ad 126)), (4, .ref (ad 127)), (5, .int x5)]) hx hb dL_law_1240 hl (by decide) rfl (fun ls hl => ?_)
    refine lv_aload_n hx hb dL_law_1242 rfl (lv_at hl 3 rfl) ?_
    refine lv_aload_n hx hb dL_law_1243 rfl (lv_at hl 1 rfl) ?_
    refine lv_iload hx hb dL_law_1244 (lv_at hl 6 rfl) ?_
    refine lv_iconst (v := 1) hx hb dL_law_1246 (by decide) ?_
    refine lv_iadd hx hb dL_law_1247 ?_
    refine va_sld hx hb hX hbl hbA hS hi1 dL_law_1248 ?_
    rw [hp1]
    refine lv_aload_n hx hb dL_law_1249 rfl (lv_at hl 1 rfl) ?_
    refine lv_iload hx hb dL_law_1250 (lv_at hl 6 rfl) ?_
    refine lv_iconst (v := 2) hx hb dL_law_1252 (by decide) ?_
    refine lv_iadd hx hb dL_law_1253 ?_
    refine va_sld hx hb hX hbl hbA hS hi2 dL_law_1254 ?_
    rw [hp2]
    refine lv_if_eq (tgt := 1262) hx hb dL_law_1255 (by decide) (fun _ => ?_) (fun c9 => absurd cb2 c9)
    refine lv_iconst (v := 0) hx hb dL_law_1262 (by decide) ?_
    refine lv_aload_n hx hb dL_law_1263 rfl (lv_at hl 1 rfl) ?_
    refine lv_iload hx hb dL_law_1264 (lv_at hl 6 rfl) ?_
    refine lv_iconst (v := 3) hx hb dL_law_1266 (by decide) ?_
    refine lv_iadd hx hb dL_law_1267 ?_
    refine va_sld hx hb hX hbl hbA hS hi3 dL_law_1268 ?_
    rw [hp3]
    refine z_calli hS (va_runV (As := [.int p1, .int (0 : Int32), .int p3]) (rest := []) ⟨hx, hb, hml, hown, hts⟩ (m_X7_ranked l hL N h2 H.size) (cwV 3 hts gL_law_X7_ranked rfl rfl rfl (by decide +kernel) ⟨by decide +kernel, by decide +kernel⟩) (z_preV (q := (RX7, TX7, 20)) hK hL hE hW hS hKm (by decide) rfl [.int p1, .int (0 : Int32), .int p3]) rfl rfl hl.1 rfl (lv_room (Nat.le_of_ble_eq_true rfl)) dL_law_1269 ⟨by show _ ≤ 601024; omega, by show _ ≤ 7293034; omega⟩) (fun H locs hW hS => ?_)
    refine lv_istore (lv' := [(7, .int bv), (6, .int k1), (0, .ref b), (1, .ref (ad 0)), (2, .ref (ad 112)), (3, .ref (ad 126)), (4, .ref (ad 127)), (5, .int x5)]) hx hb dL_law_1272 hl (by decide) rfl (fun ls hl => ?_)
    refine lv_aload_n hx hb dL_law_1274 rfl (lv_at hl 4 rfl) ?_
    refine z_calli hS (va_runV (As := []) (rest := []) ⟨hx, hb, hml, hown, hts⟩ (m_X7_thrown l hL N h3 H.size) (cwV 0 hts gL_law_X7_thrown rfl rfl rfl (by decide +kernel) ⟨by decide +kernel, by decide +kernel⟩) (z_preV (q := (RX7, TX7, 20)) hK hL hE hW hS hKm (by decide) rfl []) rfl rfl hl.1 rfl (lv_room (Nat.le_of_ble_eq_true rfl)) dL_law_1275 ⟨by show _ ≤ 601024; omega, by show _ ≤ 7293034; omega⟩) (fun H locs hW hS => ?_)
    refine lv_iload hx hb dL_law_1278 (lv_at hl 1 rfl) ?_
    refine lv_icmp_eq (tgt := 1285) hx hb dL_law_1280 (by decide) (fun _ => ?_) (fun c9 => absurd rfl c9)
    refine lv_iload hx hb dL_law_1285 (lv_at hl 1 rfl) ?_
    refine lv_if_ne (tgt := 1302) hx hb dL_law_1287 (by decide) (fun _ => ?_) (fun c8 => ?_)
    · skip
      refine lv_goto (tgt := 1739) hx hb dL_law_1302 (by decide) ?_
      refine W.widen (k := cc0 + 12) (n := ss0 + 80) (by omega) (by omega) ?_
      exact hk hI hW hS (lv_sub hl [2, 3, 4, 5, 6, 7] rfl)
    have h4 := h4 c8
    refine lv_aload_n hx hb dL_law_1290 rfl (lv_at hl 5 rfl) ?_
    refine lv_iconst (v := 0) hx hb dL_law_1291 (by decide) ?_
    refine z_lald hx hb hK hL hW hok dL_law_1292 ?_
    refine lv_iload hx hb dL_law_1293 (lv_at hl 0 rfl) ?_
    refine lv_i2l hx hb dL_law_1295 rfl ?_
    refine z_lc_eq (tgt := 1302) hx hb dL_law_1296 dL_law_1297 (by decide) (fun _ => ?_) (fun c9 => absurd h4 c9)
    refine lv_goto (tgt := 1739) hx hb dL_law_1302 (by decide) ?_
    refine W.widen (k := cc0 + 12) (n := ss0 + 80) (by omega) (by omega) ?_
    exact hk hI hW hS (lv_sub hl [2, 3, 4, 5, 6, 7] rfl)
  · have eb2 : zb01 p2 = 1 := if_neg cb2
    rw [eb2] at h1 h2
    refine lv_if_eq (tgt := 1229) hx hb dL_law_1222 (by decide) (fun c9 => absurd c9 cb2) (fun _ => ?_)
    refine lv_iconst (v := 1) hx hb dL_law_1225 (by decide) ?_
    refine lv_goto (tgt := 1230) hx hb dL_law_1226 (by decide) ?_
    refine lv_aload_n hx hb dL_law_1230 rfl (lv_at hl 0 rfl) ?_
    refine lv_iload hx hb dL_law_1231 (lv_at hl 5 rfl) ?_
    refine lv_iconst (v := 3) hx hb dL_law_1233 (by decide) ?_
    refine lv_iadd hx hb dL_law_1234 ?_
    refine va_sld hx hb hX hbl hbA hS hi3 dL_law_1235 ?_
    rw [hp3]
    refine lv_aload_n hx hb dL_law_1236 rfl (lv_at hl 3 rfl) ?_
    refine z_calli hS (vx_runSW (As := [.ref (ad 0), .int p1, .int (1 : Int32), .int p3, .ref (ad 126)]) (rest := []) ⟨hx, hb, hml, hown, hts⟩ (m_L_ranked l hlt hL N h1 H.size) (vx_cwSW (hh := [(0, 12, 15, 19)]) 5 hts gL_law_L_ranked rfl rfl rfl (by decide +kernel) ⟨by decide +kernel, by decide +kernel⟩) (z_preS hK hE hW hS [.ref (ad 0), .int p1, .int (1 : Int32), .int p3, .ref (ad 126)]) rfl rfl hl.1 rfl (lv_room (Nat.le_of_ble_eq_true rfl)) dL_law_1237 ⟨by show cc0 + 2 ≤ 601024; omega, by show ss0 + 12 ≤ 7293034; omega⟩) (fun H locs hW hS => ?_)
    refine W.widen (k := cc0 + 12) (n := ss0 + 80) (by omega) (by omega) ?_
    refine lv_istore (lv' := [(6, .int k1), (0, .ref b), (1, .ref (ad 0)), (2, .ref (ad 112)), (3, .ref (ad 126)), (4, .ref (ad 127)), (5, .int x5)]) hx hb dL_law_1240 hl (by decide) rfl (fun ls hl => ?_)
    refine lv_aload_n hx hb dL_law_1242 rfl (lv_at hl 3 rfl) ?_
    refine lv_aload_n hx hb dL_law_1243 rfl (lv_at hl 1 rfl) ?_
    refine lv_iload hx hb dL_law_1244 (lv_at hl 6 rfl) ?_
    refine lv_iconst (v := 1) hx hb dL_law_1246 (by decide) ?_
    refine lv_iadd hx hb dL_law_1247 ?_
    refine va_sld hx hb hX hbl hbA hS hi1 dL_law_1248 ?_
    rw [hp1]
    refine lv_aload_n hx hb dL_law_1249 rfl (lv_at hl 1 rfl) ?_
    refine lv_iload hx hb dL_law_1250 (lv_at hl 6 rfl) ?_
    refine lv_iconst (v := 2) hx hb dL_law_1252 (by decide) ?_
    refine lv_iadd hx hb dL_law_1253 ?_
    refine va_sld hx hb hX hbl hbA hS hi2 dL_law_1254 ?_
    rw [hp2]
    refine lv_if_eq (tgt := 1262) hx hb dL_law_1255 (by decide) (fun c9 => absurd c9 cb2) (fun _ => ?_)
    refine lv_iconst (v := 1) hx hb dL_law_1258 (by decide) ?_
    refine lv_goto (tgt := 1263) hx hb dL_law_1259 (by decide) ?_
    refine lv_aload_n hx hb dL_law_1263 rfl (lv_at hl 1 rfl) ?_
    refine lv_iload hx hb dL_law_1264 (lv_at hl 6 rfl) ?_
    refine lv_iconst (v := 3) hx hb dL_law_1266 (by decide) ?_
    refine lv_iadd hx hb dL_law_1267 ?_
    refine va_sld hx hb hX hbl hbA hS hi3 dL_law_1268 ?_
    rw [hp3]
    refine z_calli hS (va_runV (As := [.int p1, .int (1 : Int32), .int p3]) (rest := []) ⟨hx, hb, hml, hown, hts⟩ (m_X7_ranked l hL N h2 H.size) (cwV 3 hts gL_law_X7_ranked rfl rfl rfl (by decide +kernel) ⟨by decide +kernel, by decide +kernel⟩) (z_preV (q := (RX7, TX7, 20)) hK hL hE hW hS hKm (by decide) rfl [.int p1, .int (1 : Int32), .int p3]) rfl rfl hl.1 rfl (lv_room (Nat.le_of_ble_eq_true rfl)) dL_law_1269 ⟨by show _ ≤ 601024; omega, by show _ ≤ 7293034; omega⟩) (fun H locs hW hS => ?_)
    refine lv_istore (lv' := [(7, .int bv), (6, .int k1), (0, .ref b), (1, .ref (ad 0)), (2, .ref (ad 112)), (3, .ref (ad 126)), (4, .ref (ad 127)), (5, .int x5)]) hx hb dL_law_1272 hl (by decide) rfl (fun ls hl => ?_)
    refine lv_aload_n hx hb dL_law_1274 rfl (lv_at hl 4 rfl) ?_
    refine z_calli hS (va_runV (As := []) (rest := []) ⟨hx, hb, hml, hown, hts⟩ (m_X7_thrown l hL N h3 H.size) (cwV 0 hts gL_law_X7_thrown rfl rfl rfl (by decide +kernel) ⟨by decide +kernel, by decide +kernel⟩) (z_preV (q := (RX7, TX7, 20)) hK hL hE hW hS hKm (by decide) rfl []) rfl rfl hl.1 rfl (lv_room (Nat.le_of_ble_eq_true rfl)) dL_law_1275 ⟨by show _ ≤ 601024; omega, by show _ ≤ 7293034; omega⟩) (fun H locs hW hS => ?_)
    refine lv_iload hx hb dL_law_1278 (lv_at hl 1 rfl) ?_
    refine lv_icmp_eq (tgt := 1285) hx hb dL_law_1280 (by decide) (fun _ => ?_) (fun c9 => absurd rfl c9)
    refine lv_iload hx hb dL_law_1285 (lv_at hl 1 rfl) ?_
    refine lv_if_ne (tgt := 1302) hx hb dL_law_1287 (by decide) (fun _ => ?_) (fun c8 => ?_)
    · skip
      refine lv_goto (tgt := 1739) hx hb dL_law_1302 (by decide) ?_
      refine W.widen (k := cc0 + 12) (n := ss0 + 80) (by omega) (by omega) ?_
      exact hk hI hW hS (lv_sub hl [2, 3, 4, 5, 6, 7] rfl)
    have h4 := h4 c8
    refine lv_aload_n hx hb dL_law_1290 rfl (lv_at hl 5 rfl) ?_
    refine lv_iconst (v := 0) hx hb dL_law_1291 (by decide) ?_
    refine z_lald hx hb hK hL hW hok dL_law_1292 ?_
    refine lv_iload hx hb dL_law_1293 (lv_at hl 0 rfl) ?_
    refine lv_i2l hx hb dL_law_1295 rfl ?_
    refine z_lc_eq (tgt := 1302) hx hb dL_law_1296 dL_law_1297 (by decide) (fun _ => ?_) (fun c9 => absurd h4 c9)
    refine lv_goto (tgt := 1739) hx hb dL_law_1302 (by decide) ?_
    refine W.widen (k := cc0 + 12) (n := ss0 + 80) (by omega) (by omega) ?_
    exact hk hI hW hS (lv_sub hl [2, 3, 4, 5, 6, 7] rfl)
set_option maxRecDepth 100000 in
set_option maxHeartbeats 4000000 in
theorem law_c16 {p : Program} {l : Launch} {e : Env} {s : State} {m : MethodId} {args : Array Value} {below : List Frame} {meth : Method} {c : Code} {D : va_G} {cy : Nat → ClassId} {ad : Nat → Nat} {L : List Nat} {K len : Nat → Nat} {Q : State → Prop} (hlt : l.stackTraces = false) (C0 : zCx p s m c meth args cL_law 9 wsL_law RL (some .boolean) D cy ad L K) {b Lx : Nat} {xs : Nat → Int32} (hX : va_X b Lx xs s s.heap) (hbl : b < s.heap.size) (hbA : ¬ (zA ad L s.heap.size) b) (N : Nat) {I : ZM → Prop} (hKx : K 0 = 7) (hKm : K 112 = 8) (hok : zok K len 126 12 0 = true) (hokD : zok K len 127 17 0 = true) {cc0 ss0 : Nat} (hcc : cc0 + 12 ≤ 601024) (hss : ss0 + 80 ≤ 7293034) {x5 : Int32} {p1 : Int32} {p2 : Int32} {p3 : Int32} {p4 : Int32} (hi1 : vp_in (x5 + (1 : Int32)) Lx) (hp1 : xs (x5 + (1 : Int32)).toNatClampNeg = p1) (hi2 : vp_in (x5 + (2 : Int32)) Lx) (hp2 : xs (x5 + (2 : Int32)).toNatClampNeg = p2) (hi3 : vp_in (x5 + (3 : Int32)) Lx) (hp3 : xs (x5 + (3 : Int32)).toNatClampNeg = p3) (hi4 : vp_in (x5 + (4 : Int32)) Lx) (hp4 : xs (x5 + (4 : Int32)).toNatClampNeg = p4) {M M1 M2 : ZM} {k1 : Int32} {bv : Int32} (h1 : f_L_rankedHead N K len 0 p1 (zb01 p2) p3 p4 126 M = some (k1, M1)) (h2 : f_X7_rankedHead N K len 112 p1 (zb01 p2) p3 p4 M1 = some (bv, M2)) (h3 : f_X7_thrown N K len 112 M2 = some k1) (h4 : k1 = 0 → zJ M2 126 0 = bv.toInt64) (hI : I M2)
    (hk : ∀ {M : ZM}, I M → ∀ {H : Heap} {locs : List Loc} {ls : Array Slot}, zWd D cy ad L K len M H → va_S (zA ad L s.heap.size) s.heap H locs → lv_has ls 9 [(0, .ref b), (1, .ref (ad 0)), (2, .ref (ad 112)), (3, .ref (ad 126)), (4, .ref (ad 127)), (5, .int x5)] → W p l e room_1 s m args below meth c H locs (cc0 + 12) (ss0 + 80) Q (F0 m 1739 ls []))
    {H : Heap} {locs : List Loc} {ls : Array Slot} (hW : zWd D cy ad L K len M H) (hS : va_S (zA ad L s.heap.size) s.heap H locs) (hl : lv_has ls 9 [(0, .ref b), (1, .ref (ad 0)), (2, .ref (ad 112)), (3, .ref (ad 126)), (4, .ref (ad 127)), (5, .int x5)]) : W p l e room_1 s m args below meth c H locs cc0 ss0 Q (F0 m 1305 ls []) := by
  obtain ⟨hx, hb, hr, hml, hown, hts, hlocks, hK, hL, hE⟩ := id C0
  refine lv_aload_n hx hb dL_law_1305 rfl (lv_at hl 1 rfl) ?_
  refine lv_aload_n hx hb dL_law_1306 rfl (lv_at hl 0 rfl) ?_
  refine lv_iload hx hb dL_law_1307 (lv_at hl 5 rfl) ?_
  refine lv_iconst (v := 1) hx hb dL_law_1309 (by decide) ?_
  refine lv_iadd hx hb dL_law_1310 ?_
  refine va_sld hx hb hX hbl hbA hS hi1 dL_law_1311 ?_
  rw [hp1]
  refine lv_aload_n hx hb dL_law_1312 rfl (lv_at hl 0 rfl) ?_
  refine lv_iload hx hb dL_law_1313 (lv_at hl 5 rfl) ?_
  refine lv_iconst (v := 2) hx hb dL_law_1315 (by decide) ?_
  refine lv_iadd hx hb dL_law_1316 ?_
  refine va_sld hx hb hX hbl hbA hS hi2 dL_law_1317 ?_
  rw [hp2]
  rcases (Decidable.em (p2 = 0)) with cb2 | cb2
  · have eb2 : zb01 p2 = 0 := if_pos cb2
    rw [eb2] at h1 h2
    refine lv_if_eq (tgt := 1325) hx hb dL_law_1318 (by decide) (fun _ => ?_) (fun c9 => absurd cb2 c9)
    refine lv_iconst (v := 0) hx hb dL_law_1325 (by decide) ?_
    refine lv_aload_n hx hb dL_law_1326 rfl (lv_at hl 0 rfl) ?_
    refine lv_iload hx hb dL_law_1327 (lv_at hl 5 rfl) ?_
    refine lv_iconst (v := 3) hx hb dL_law_1329 (by decide) ?_
    refine lv_iadd hx hb dL_law_1330 ?_
    refine va_sld hx hb hX hbl hbA hS hi3 dL_law_1331 ?_
    rw [hp3]
    refine lv_aload_n hx hb dL_law_1332 rfl (lv_at hl 0 rfl) ?_
    refine lv_iload hx hb dL_law_1333 (lv_at hl 5 rfl) ?_
    refine lv_iconst (v := 4) hx hb dL_law_1335 (by decide) ?_
    refine lv_iadd hx hb dL_law_1336 ?_
    refine va_sld hx hb hX hbl hbA hS hi4 dL_law_1337 ?_
    rw [hp4]
    refine lv_aload_n hx hb dL_law_1338 rfl (lv_at hl 3 rfl) ?_
    refine z_calli hS (vx_runSW (As := [.ref (ad 0), .int p1, .int (0 : Int32), .int p3, .int p4, .ref (ad 126)]) (rest := []) ⟨hx, hb, hml, hown, hts⟩ (m_L_rankedHead l hlt hL N h1 H.size) (vx_cwSW (hh := [(0, 14, 17, 19)]) 6 hts gL_law_L_rankedHead rfl rfl rfl (by decide +kernel) ⟨by decide +kernel, by decide +kernel⟩) (z_preS hK hE hW hS [.ref (ad 0), .int p1, .int (0 : Int32), .int p3, .int p4, .ref (ad 126)]) rfl rfl hl.1 rfl (lv_room (Nat.le_of_ble_eq_true rfl)) dL_law_1339 ⟨by show cc0 + 3 ≤ 601024; omega, by show ss0 + 18 ≤ 7293034; omega⟩) (fun H locs hW hS => ?_)
    refine W.widen (k := cc0 + 12) (n := ss0 + 80) (by omega) (by omega) ?_
    refine lv_istore (lv' := [(6, .int k1), (0, .ref b), (1, .ref (ad 0)), (2, .ref (ad 112)), (3, .ref (ad 126)), (4, .ref (ad 127)), (5, .int x5)]) hx hb dL_law_1342 hl (by decide) rfl (fun ls hl => ?_)
    refine lv_aload_n hx hb dL_law_1344 rfl (lv_at hl 3 rfl) ?_
    refine lv_aload_n hx hb dL_law_1345 rfl (lv_at hl 1 rfl) ?_
    refine lv_iload hx hb dL_law_1346 (lv_at hl 6 rfl) ?_
    refine lv_iconst (v := 1) hx hb dL_law_1348 (by decide) ?_
    refine lv_iadd hx hb dL_law_1349 ?_
    refine va_sld hx hb hX hbl hbA hS hi1 dL_law_1350 ?_
    rw [hp1]
    refine lv_aload_n hx hb dL_law_1351 rfl (lv_at hl 1 rfl) ?_
    refine lv_iload hx hb dL_law_1352 (lv_at hl 6 rfl) ?_
    refine lv_iconst (v := 2) hx hb dL_law_1354 (by decide) ?_
    refine lv_iadd hx hb dL_law_1355 ?_
    refine va_sld hx hb hX hbl hbA hS hi2 dL_law_1356 ?_
    rw [hp2]
    refine lv_if_eq (tgt := 1364) hx hb dL_law_1357 (by decide) (fun _ => ?_) (fun c9 => absurd cb2 c9)
    refine lv_iconst (v := 0) hx hb dL_law_1364 (by decide) ?_
    refine lv_aload_n hx hb dL_law_1365 rfl (lv_at hl 1 rfl) ?_
    refine lv_iload hx hb dL_law_1366 (lv_at hl 6 rfl) ?_
    refine lv_iconst (v := 3) hx hb dL_law_1368 (by decide) ?_
    refine lv_iadd hx hb dL_law_1369 ?_
    refine va_sld hx hb hX hbl hbA hS hi3 dL_law_1370 ?_
    rw [hp3]
    refine lv_aload_n hx hb dL_law_1371 rfl (lv_at hl 1 rfl) ?_
    refine lv_iload hx hb dL_law_1372 (lv_at hl 6 rfl) ?_
    refine lv_iconst (v := 4) hx hb dL_law_1374 (by decide) ?_
    refine lv_iadd hx hb dL_law_1375 ?_
    refine va_sld hx hb hX hbl hbA hS hi4 dL_law_1376 ?_
    rw [hp4]
    refine z_calli hS (va_runV (As := [.int p1, .int (0 : Int32), .int p3, .int p4]) (rest := []) ⟨hx, hb, hml, hown, hts⟩ (m_X7_rankedHead l hL N h2 H.size) (cwV 4 hts gL_law_X7_rankedHead rfl rfl rfl (by decide +kernel) ⟨by decide +kernel, by decide +kernel⟩) (z_preV (q := (RX7, TX7, 20)) hK hL hE hW hS hKm (by decide) rfl [.int p1, .int (0 : Int32), .int p3, .int p4]) rfl rfl hl.1 rfl (lv_room (Nat.le_of_ble_eq_true rfl)) dL_law_1377 ⟨by show _ ≤ 601024; omega, by show _ ≤ 7293034; omega⟩) (fun H locs hW hS => ?_)
    refine lv_istore (lv' := [(7, .int bv), (6, .int k1), (0, .ref b), (1, .ref (ad 0)), (2, .ref (ad 112)), (3, .ref (ad 126)), (4, .ref (ad 127)), (5, .int x5)]) hx hb dL_law_1380 hl (by decide) rfl (fun ls hl => ?_)
    refine lv_aload_n hx hb dL_law_1382 rfl (lv_at hl 4 rfl) ?_
    refine z_calli hS (va_runV (As := []) (rest := []) ⟨hx, hb, hml, hown, hts⟩ (m_X7_thrown l hL N h3 H.size) (cwV 0 hts gL_law_X7_thrown rfl rfl rfl (by decide +kernel) ⟨by decide +kernel, by decide +kernel⟩) (z_preV (q := (RX7, TX7, 20)) hK hL hE hW hS hKm (by decide) rfl []) rfl rfl hl.1 rfl (lv_room (Nat.le_of_ble_eq_true rfl)) dL_law_1383 ⟨by show _ ≤ 601024; omega, by show _ ≤ 7293034; omega⟩) (fun H locs hW hS => ?_)
    refine lv_iload hx hb dL_law_1386 (lv_at hl 1 rfl) ?_
    refine lv_icmp_eq (tgt := 1393) hx hb dL_law_1388 (by decide) (fun _ => ?_) (fun c9 => absurd rfl c9)
    refine lv_iload hx hb dL_law_1393 (lv_at hl 1 rfl) ?_
    refine lv_if_ne (tgt := 1410) hx hb dL_law_1395 (by decide) (fun _ => ?_) (fun c8 => ?_)
    · skip
      refine lv_goto (tgt := 1739) hx hb dL_law_1410 (by decide) ?_
      refine W.widen (k := cc0 + 12) (n := ss0 + 80) (by omega) (by omega) ?_
      exact hk hI hW hS (lv_sub hl [2, 3, 4, 5, 6, 7] rfl)
    have h4 := h4 c8
    refine lv_aload_n hx hb dL_law_1398 rfl (lv_at hl 5 rfl) ?_
    refine lv_iconst (v := 0) hx hb dL_law_1399 (by decide) ?_
    refine z_lald hx hb hK hL hW hok dL_law_1400 ?_
    refine lv_iload hx hb dL_law_1401 (lv_at hl 0 rfl) ?_
    refine lv_i2l hx hb dL_law_1403 rfl ?_
    refine z_lc_eq (tgt := 1410) hx hb dL_law_1404 dL_law_1405 (by decide) (fun _ => ?_) (fun c9 => absurd h4 c9)
    refine lv_goto (tgt := 1739) hx hb dL_law_1410 (by decide) ?_
    refine W.widen (k := cc0 + 12) (n := ss0 + 80) (by omega) (by omega) ?_
    exact hk hI hW hS (lv_sub hl [2, 3, 4, 5, 6, 7] rfl)
  · have eb2 : zb01 p2 = 1 := if_neg cb2
    rw [eb2] at h1 h2
    refine lv_if_eq (tgt := 1325) hx hb dL_law_1318 (by decide) (fun c9 => absurd c9 cb2) (fun _ => ?_)
    refine lv_iconst (v := 1) hx hb dL_law_1321 (by decide) ?_
    refine lv_goto (tgt := 1326) hx hb dL_law_1322 (by decide) ?_
    refine lv_aload_n hx hb dL_law_1326 rfl (lv_at hl 0 rfl) ?_
    refine lv_iload hx hb dL_law_1327 (lv_at hl 5 rfl) ?_
    refine lv_iconst (v := 3) hx hb dL_law_1329 (by decide) ?_
    refine lv_iadd hx hb dL_law_1330 ?_
    refine va_sld hx hb hX hbl hbA hS hi3 dL_law_1331 ?_
    rw [hp3]
    refine lv_aload_n hx hb dL_law_1332 rfl (lv_at hl 0 rfl) ?_
    refine lv_iload hx hb dL_law_1333 (lv_at hl 5 rfl) ?_
    refine lv_iconst (v := 4) hx hb dL_law_1335 (by decide) ?_
    refine lv_iadd hx hb dL_law_1336 ?_
    refine va_sld hx hb hX hbl hbA hS hi4 dL_law_1337 ?_
    rw [hp4]
    refine lv_aload_n hx hb dL_law_1338 rfl (lv_at hl 3 rfl) ?_
    refine z_calli hS (vx_runSW (As := [.ref (ad 0), .int p1, .int (1 : Int32), .int p3, .int p4, .ref (ad 126)]) (rest := []) ⟨hx, hb, hml, hown, hts⟩ (m_L_rankedHead l hlt hL N h1 H.size) (vx_cwSW (hh := [(0, 14, 17, 19)]) 6 hts gL_law_L_rankedHead rfl rfl rfl (by decide +kernel) ⟨by decide +kernel, by decide +kernel⟩) (z_preS hK hE hW hS [.ref (ad 0), .int p1, .int (1 : Int32), .int p3, .int p4, .ref (ad 126)]) rfl rfl hl.1 rfl (lv_room (Nat.le_of_ble_eq_true rfl)) dL_law_1339 ⟨by show cc0 + 3 ≤ 601024; omega, by show ss0 + 18 ≤ 7293034; omega⟩) (fun H locs hW hS => ?_)
    refine W.widen (k := cc0 + 12) (n := ss0 + 80) (by omega) (by omega) ?_
    refine lv_istore (lv' := [(6, .int k1), (0, .ref b), (1, .ref (ad 0)), (2, .ref (ad 112)), (3, .ref (ad 126)), (4, .ref (ad 127)), (5, .int x5)]) hx hb dL_law_1342 hl (by decide) rfl (fun ls hl => ?_)
    refine lv_aload_n hx hb dL_law_1344 rfl (lv_at hl 3 rfl) ?_
    refine lv_aload_n hx hb dL_law_1345 rfl (lv_at hl 1 rfl) ?_
    refine lv_iload hx hb dL_law_1346 (lv_at hl 6 rfl) ?_
    refine lv_iconst (v := 1) hx hb dL_law_1348 (by decide) ?_
    refine lv_iadd hx hb dL_law_1349 ?_
    refine va_sld hx hb hX hbl hbA hS hi1 dL_law_1350 ?_
    rw [hp1]
    refine lv_aload_n hx hb dL_law_1351 rfl (lv_at hl 1 rfl) ?_
    refine lv_iload hx hb dL_law_1352 (lv_at hl 6 rfl) ?_
    refine lv_iconst (v := 2) hx hb dL_law_1354 (by decide) ?_
    refine lv_iadd hx hb dL_law_1355 ?_
    refine va_sld hx hb hX hbl hbA hS hi2 dL_law_1356 ?_
    rw [hp2]
    refine lv_if_eq (tgt := 1364) hx hb dL_law_1357 (by decide) (fun c9 => absurd c9 cb2) (fun _ => ?_)
    refine lv_iconst (v := 1) hx hb dL_law_1360 (by decide) ?_
    refine lv_goto (tgt := 1365) hx hb dL_law_1361 (by decide) ?_
    refine lv_aload_n hx hb dL_law_1365 rfl (lv_at hl 1 rfl) ?_
    refine lv_iload hx hb dL_law_1366 (lv_at hl 6 rfl) ?_
    refine lv_iconst (v := 3) hx hb dL_law_1368 (by decide) ?_
    refine lv_iadd hx hb dL_law_1369 ?_
    refine va_sld hx hb hX hbl hbA hS hi3 dL_law_1370 ?_
    rw [hp3]
    refine lv_aload_n hx hb dL_law_1371 rfl (lv_at hl 1 rfl) ?_
    refine lv_iload hx hb dL_law_1372 (lv_at hl 6 rfl) ?_
    refine lv_iconst (v := 4) hx hb dL_law_1374 (by decide) ?_
    refine lv_iadd hx hb dL_law_1375 ?_
    refine va_sld hx hb hX hbl hbA hS hi4 dL_law_1376 ?_
    rw [hp4]
    refine z_calli hS (va_runV (As := [.int p1, .int (1 : Int32), .int p3, .int p4]) (rest := []) ⟨hx, hb, hml, hown, hts⟩ (m_X7_rankedHead l hL N h2 H.size) (cwV 4 hts gL_law_X7_rankedHead rfl rfl rfl (by decide +kernel) ⟨by decide +kernel, by decide +kernel⟩) (z_preV (q := (RX7, TX7, 20)) hK hL hE hW hS hKm (by decide) rfl [.int p1, .int (1 : Int32), .int p3, .int p4]) rfl rfl hl.1 rfl (lv_room (Nat.le_of_ble_eq_true rfl)) dL_law_1377 ⟨by show _ ≤ 601024; omega, by show _ ≤ 7293034; omega⟩) (fun H locs hW hS => ?_)
    refine lv_istore (lv' := [(7, .int bv), (6, .int k1), (0, .ref b), (1, .ref (ad 0)), (2, .ref (ad 112)), (3, .ref (ad 126)), (4, .ref (ad 127)), (5, .int x5)]) hx hb dL_law_1380 hl (by decide) rfl (fun ls hl => ?_)
    refine lv_aload_n hx hb dL_law_1382 rfl (lv_at hl 4 rfl) ?_
    refine z_calli hS (va_runV (As := []) (rest := []) ⟨hx, hb, hml, hown, hts⟩ (m_X7_thrown l hL N h3 H.size) (cwV 0 hts gL_law_X7_thrown rfl rfl rfl (by decide +kernel) ⟨by decide +kernel, by decide +kernel⟩) (z_preV (q := (RX7, TX7, 20)) hK hL hE hW hS hKm (by decide) rfl []) rfl rfl hl.1 rfl (lv_room (Nat.le_of_ble_eq_true rfl)) dL_law_1383 ⟨by show _ ≤ 601024; omega, by show _ ≤ 7293034; omega⟩) (fun H locs hW hS => ?_)
    refine lv_iload hx hb dL_law_1386 (lv_at hl 1 rfl) ?_
    refine lv_icmp_eq (tgt := 1393) hx hb dL_law_1388 (by decide) (fun _ => ?_) (fun c9 => absurd rfl c9)
    refine lv_iload hx hb dL_law_1393 (lv_at hl 1 rfl) ?_
    refine lv_if_ne (tgt := 1410) hx hb dL_law_1395 (by decide) (fun _ => ?_) (fun c8 => ?_)
    · skip
      refine lv_goto (tgt := 1739) hx hb dL_law_1410 (by decide) ?_
      refine W.widen (k := cc0 + 12) (n := ss0 + 80) (by omega) (by omega) ?_
      exact hk hI hW hS (lv_sub hl [2, 3, 4, 5, 6, 7] rfl)
    have h4 := h4 c8
    refine lv_aload_n hx hb dL_law_1398 rfl (lv_at hl 5 rfl) ?_
    refine lv_iconst (v := 0) hx hb dL_law_1399 (by decide) ?_
    refine z_lald hx hb hK hL hW hok dL_law_1400 ?_
    refine lv_iload hx hb dL_law_1401 (lv_at hl 0 rfl) ?_
    refine lv_i2l hx hb dL_law_1403 rfl ?_
    refine z_lc_eq (tgt := 1410) hx hb dL_law_1404 dL_law_1405 (by decide) (fun _ => ?_) (fun c9 => absurd h4 c9)
    refine lv_goto (tgt := 1739) hx hb dL_law_1410 (by decide) ?_
    refine W.widen (k := cc0 + 12) (n := ss0 + 80) (by omega) (by omega) ?_
    exact hk hI hW hS (lv_sub hl [2, 3, 4, 5, 6, 7] rfl)
set_option maxRecDepth 100000 in
set_option maxHeartbeats 4000000 in
theorem law_c17 {p : Program} {l : Launch} {e : Env} {s : State} {m : MethodId} {args : Array Value} {below : List Frame} {meth : Method} {c : Code} {D : va_G} {cy : Nat → ClassId} {ad : Nat → Nat} {L : List Nat} {K len : Nat → Nat} {Q : State → Prop} (hlt : l.stackTraces = false) (C0 : zCx p s m c meth args cL_law 9 wsL_law RL (some .boolean) D cy ad L K) {b Lx : Nat} {xs : Nat → Int32} (hX : va_X b Lx xs s s.heap) (hbl : b < s.heap.size) (hbA : ¬ (zA ad L s.heap.size) b) (N : Nat) {I : ZM → Prop} (hKx : K 0 = 7) (hKm : K 112 = 8) (hok : zok K len 126 12 0 = true) (hokD : zok K len 127 17 0 = true) {cc0 ss0 : Nat} (hcc : cc0 + 12 ≤ 601024) (hss : ss0 + 80 ≤ 7293034) {x5 : Int32} {p1 : Int32} {p2 : Int32} {p3 : Int32} (hi1 : vp_in (x5 + (1 : Int32)) Lx) (hp1 : xs (x5 + (1 : Int32)).toNatClampNeg = p1) (hi2 : vp_in (x5 + (2 : Int32)) Lx) (hp2 : xs (x5 + (2 : Int32)).toNatClampNeg = p2) (hi3 : vp_in (x5 + (3 : Int32)) Lx) (hp3 : xs (x5 + (3 : Int32)).toNatClampNeg = p3) {M M1 M2 : ZM} {k1 : Int32} {bv : Int32} (h1 : f_L_correct N K len 0 p1 p2 p3 126 M = some (k1, M1)) (h2 : f_X7_correct N K len 112 p1 p2 p3 M1 = some (bv, M2)) (h3 : f_X7_thrown N K len 112 M2 = some k1) (h4 : k1 = 0 → zJ M2 126 0 = bv.toInt64) (hI : I M2)
    (hk : ∀ {M : ZM}, I M → ∀ {H : Heap} {locs : List Loc} {ls : Array Slot}, zWd D cy ad L K len M H → va_S (zA ad L s.heap.size) s.heap H locs → lv_has ls 9 [(0, .ref b), (1, .ref (ad 0)), (2, .ref (ad 112)), (3, .ref (ad 126)), (4, .ref (ad 127)), (5, .int x5)] → W p l e room_1 s m args below meth c H locs (cc0 + 12) (ss0 + 80) Q (F0 m 1739 ls []))
    {H : Heap} {locs : List Loc} {ls : Array Slot} (hW : zWd D cy ad L K len M H) (hS : va_S (zA ad L s.heap.size) s.heap H locs) (hl : lv_has ls 9 [(0, .ref b), (1, .ref (ad 0)), (2, .ref (ad 112)), (3, .ref (ad 126)), (4, .ref (ad 127)), (5, .int x5)]) : W p l e room_1 s m args below meth c H locs cc0 ss0 Q (F0 m 1413 ls []) := by
  obtain ⟨hx, hb, hr, hml, hown, hts, hlocks, hK, hL, hE⟩ := id C0
  refine lv_aload_n hx hb dL_law_1413 rfl (lv_at hl 1 rfl) ?_
  refine lv_aload_n hx hb dL_law_1414 rfl (lv_at hl 0 rfl) ?_
  refine lv_iload hx hb dL_law_1415 (lv_at hl 5 rfl) ?_
  refine lv_iconst (v := 1) hx hb dL_law_1417 (by decide) ?_
  refine lv_iadd hx hb dL_law_1418 ?_
  refine va_sld hx hb hX hbl hbA hS hi1 dL_law_1419 ?_
  rw [hp1]
  refine lv_aload_n hx hb dL_law_1420 rfl (lv_at hl 0 rfl) ?_
  refine lv_iload hx hb dL_law_1421 (lv_at hl 5 rfl) ?_
  refine lv_iconst (v := 2) hx hb dL_law_1423 (by decide) ?_
  refine lv_iadd hx hb dL_law_1424 ?_
  refine va_sld hx hb hX hbl hbA hS hi2 dL_law_1425 ?_
  rw [hp2]
  refine lv_aload_n hx hb dL_law_1426 rfl (lv_at hl 0 rfl) ?_
  refine lv_iload hx hb dL_law_1427 (lv_at hl 5 rfl) ?_
  refine lv_iconst (v := 3) hx hb dL_law_1429 (by decide) ?_
  refine lv_iadd hx hb dL_law_1430 ?_
  refine va_sld hx hb hX hbl hbA hS hi3 dL_law_1431 ?_
  rw [hp3]
  refine lv_aload_n hx hb dL_law_1432 rfl (lv_at hl 3 rfl) ?_
  refine z_calli hS (vx_runSW (As := [.ref (ad 0), .int p1, .int p2, .int p3, .ref (ad 126)]) (rest := []) ⟨hx, hb, hml, hown, hts⟩ (m_L_correct l hlt hL N h1 H.size) (vx_cwSW (hh := [(0, 12, 15, 19), (0, 12, 19, 21)]) 5 hts gL_law_L_correct rfl rfl rfl (by decide +kernel) ⟨by decide +kernel, by decide +kernel⟩) (z_preS hK hE hW hS [.ref (ad 0), .int p1, .int p2, .int p3, .ref (ad 126)]) rfl rfl hl.1 rfl (lv_room (Nat.le_of_ble_eq_true rfl)) dL_law_1433 ⟨by show cc0 + 3 ≤ 601024; omega, by show ss0 + 18 ≤ 7293034; omega⟩) (fun H locs hW hS => ?_)
  refine W.widen (k := cc0 + 12) (n := ss0 + 80) (by omega) (by omega) ?_
  refine lv_istore (lv' := [(6, .int k1), (0, .ref b), (1, .ref (ad 0)), (2, .ref (ad 112)), (3, .ref (ad 126)), (4, .ref (ad 127)), (5, .int x5)]) hx hb dL_law_1436 hl (by decide) rfl (fun ls hl => ?_)
  refine lv_aload_n hx hb dL_law_1438 rfl (lv_at hl 3 rfl) ?_
  refine lv_aload_n hx hb dL_law_1439 rfl (lv_at hl 1 rfl) ?_
  refine lv_iload hx hb dL_law_1440 (lv_at hl 6 rfl) ?_
  refine lv_iconst (v := 1) hx hb dL_law_1442 (by decide) ?_
  refine lv_iadd hx hb dL_law_1443 ?_
  refine va_sld hx hb hX hbl hbA hS hi1 dL_law_1444 ?_
  rw [hp1]
  refine lv_aload_n hx hb dL_law_1445 rfl (lv_at hl 1 rfl) ?_
  refine lv_iload hx hb dL_law_1446 (lv_at hl 6 rfl) ?_
  refine lv_iconst (v := 2) hx hb dL_law_1448 (by decide) ?_
  refine lv_iadd hx hb dL_law_1449 ?_
  refine va_sld hx hb hX hbl hbA hS hi2 dL_law_1450 ?_
  rw [hp2]
  refine lv_aload_n hx hb dL_law_1451 rfl (lv_at hl 1 rfl) ?_
  refine lv_iload hx hb dL_law_1452 (lv_at hl 6 rfl) ?_
  refine lv_iconst (v := 3) hx hb dL_law_1454 (by decide) ?_
  refine lv_iadd hx hb dL_law_1455 ?_
  refine va_sld hx hb hX hbl hbA hS hi3 dL_law_1456 ?_
  rw [hp3]
  refine z_calli hS (va_runV (As := [.int p1, .int p2, .int p3]) (rest := []) ⟨hx, hb, hml, hown, hts⟩ (m_X7_correct l hL N h2 H.size) (cwV 3 hts gL_law_X7_correct rfl rfl rfl (by decide +kernel) ⟨by decide +kernel, by decide +kernel⟩) (z_preV (q := (RX7, TX7, 20)) hK hL hE hW hS hKm (by decide) rfl [.int p1, .int p2, .int p3]) rfl rfl hl.1 rfl (lv_room (Nat.le_of_ble_eq_true rfl)) dL_law_1457 ⟨by show _ ≤ 601024; omega, by show _ ≤ 7293034; omega⟩) (fun H locs hW hS => ?_)
  refine lv_istore (lv' := [(7, .int bv), (6, .int k1), (0, .ref b), (1, .ref (ad 0)), (2, .ref (ad 112)), (3, .ref (ad 126)), (4, .ref (ad 127)), (5, .int x5)]) hx hb dL_law_1460 hl (by decide) rfl (fun ls hl => ?_)
  refine lv_aload_n hx hb dL_law_1462 rfl (lv_at hl 4 rfl) ?_
  refine z_calli hS (va_runV (As := []) (rest := []) ⟨hx, hb, hml, hown, hts⟩ (m_X7_thrown l hL N h3 H.size) (cwV 0 hts gL_law_X7_thrown rfl rfl rfl (by decide +kernel) ⟨by decide +kernel, by decide +kernel⟩) (z_preV (q := (RX7, TX7, 20)) hK hL hE hW hS hKm (by decide) rfl []) rfl rfl hl.1 rfl (lv_room (Nat.le_of_ble_eq_true rfl)) dL_law_1463 ⟨by show _ ≤ 601024; omega, by show _ ≤ 7293034; omega⟩) (fun H locs hW hS => ?_)
  refine lv_iload hx hb dL_law_1466 (lv_at hl 1 rfl) ?_
  refine lv_icmp_eq (tgt := 1473) hx hb dL_law_1468 (by decide) (fun _ => ?_) (fun c9 => absurd rfl c9)
  refine lv_iload hx hb dL_law_1473 (lv_at hl 1 rfl) ?_
  refine lv_if_ne (tgt := 1490) hx hb dL_law_1475 (by decide) (fun _ => ?_) (fun c8 => ?_)
  · skip
    refine lv_goto (tgt := 1739) hx hb dL_law_1490 (by decide) ?_
    refine W.widen (k := cc0 + 12) (n := ss0 + 80) (by omega) (by omega) ?_
    exact hk hI hW hS (lv_sub hl [2, 3, 4, 5, 6, 7] rfl)
  have h4 := h4 c8
  refine lv_aload_n hx hb dL_law_1478 rfl (lv_at hl 5 rfl) ?_
  refine lv_iconst (v := 0) hx hb dL_law_1479 (by decide) ?_
  refine z_lald hx hb hK hL hW hok dL_law_1480 ?_
  refine lv_iload hx hb dL_law_1481 (lv_at hl 0 rfl) ?_
  refine lv_i2l hx hb dL_law_1483 rfl ?_
  refine z_lc_eq (tgt := 1490) hx hb dL_law_1484 dL_law_1485 (by decide) (fun _ => ?_) (fun c9 => absurd h4 c9)
  refine lv_goto (tgt := 1739) hx hb dL_law_1490 (by decide) ?_
  refine W.widen (k := cc0 + 12) (n := ss0 + 80) (by omega) (by omega) ?_
  exact hk hI hW hS (lv_sub hl [2, 3, 4, 5, 6, 7] rfl)
set_option maxRecDepth 100000 in
set_option maxHeartbeats 4000000 in
theorem law_c18 {p : Program} {l : Launch} {e : Env} {s : State} {m : MethodId} {args : Array Value} {below : List Frame} {meth : Method} {c : Code} {D : va_G} {cy : Nat → ClassId} {ad : Nat → Nat} {L : List Nat} {K len : Nat → Nat} {Q : State → Prop} (hlt : l.stackTraces = false) (C0 : zCx p s m c meth args cL_law 9 wsL_law RL (some .boolean) D cy ad L K) {b Lx : Nat} {xs : Nat → Int32} (hX : va_X b Lx xs s s.heap) (hbl : b < s.heap.size) (hbA : ¬ (zA ad L s.heap.size) b) (N : Nat) {I : ZM → Prop} (hKx : K 0 = 7) (hKm : K 112 = 8) (hok : zok K len 126 12 0 = true) (hokD : zok K len 127 17 0 = true) {cc0 ss0 : Nat} (hcc : cc0 + 12 ≤ 601024) (hss : ss0 + 80 ≤ 7293034) {x5 : Int32} {p1 : Int32} (hi1 : vp_in (x5 + (1 : Int32)) Lx) (hp1 : xs (x5 + (1 : Int32)).toNatClampNeg = p1) {M M1 M2 : ZM} {k1 : Int32} {bv : Int32} (h1 : f_L_matched N K len 0 p1 126 M = some (k1, M1)) (h2 : f_X7_matched N K len 112 p1 M1 = some (bv, M2)) (h3 : f_X7_thrown N K len 112 M2 = some k1) (h4 : k1 = 0 → zJ M2 126 0 = bv.toInt64) (hI : I M2)
    (hk : ∀ {M : ZM}, I M → ∀ {H : Heap} {locs : List Loc} {ls : Array Slot}, zWd D cy ad L K len M H → va_S (zA ad L s.heap.size) s.heap H locs → lv_has ls 9 [(0, .ref b), (1, .ref (ad 0)), (2, .ref (ad 112)), (3, .ref (ad 126)), (4, .ref (ad 127)), (5, .int x5)] → W p l e room_1 s m args below meth c H locs (cc0 + 12) (ss0 + 80) Q (F0 m 1739 ls []))
    {H : Heap} {locs : List Loc} {ls : Array Slot} (hW : zWd D cy ad L K len M H) (hS : va_S (zA ad L s.heap.size) s.heap H locs) (hl : lv_has ls 9 [(0, .ref b), (1, .ref (ad 0)), (2, .ref (ad 112)), (3, .ref (ad 126)), (4, .ref (ad 127)), (5, .int x5)]) : W p l e room_1 s m args below meth c H locs cc0 ss0 Q (F0 m 1493 ls []) := by
  obtain ⟨hx, hb, hr, hml, hown, hts, hlocks, hK, hL, hE⟩ := id C0
  refine lv_aload_n hx hb dL_law_1493 rfl (lv_at hl 1 rfl) ?_
  refine lv_aload_n hx hb dL_law_1494 rfl (lv_at hl 0 rfl) ?_
  refine lv_iload hx hb dL_law_1495 (lv_at hl 5 rfl) ?_
  refine lv_iconst (v := 1) hx hb dL_law_1497 (by decide) ?_
  refine lv_iadd hx hb dL_law_1498 ?_
  refine va_sld hx hb hX hbl hbA hS hi1 dL_law_1499 ?_
  rw [hp1]
  refine lv_aload_n hx hb dL_law_1500 rfl (lv_at hl 3 rfl) ?_
  refine z_calli hS (vx_runSW (As := [.ref (ad 0), .int p1, .ref (ad 126)]) (rest := []) ⟨hx, hb, hml, hown, hts⟩ (m_L_matched l hlt hL N h1 H.size) (vx_cwSW (hh := [(0, 9, 12, 19), (0, 9, 15, 13)]) 3 hts gL_law_L_matched rfl rfl rfl (by decide +kernel) ⟨by decide +kernel, by decide +kernel⟩) (z_preS hK hE hW hS [.ref (ad 0), .int p1, .ref (ad 126)]) rfl rfl hl.1 rfl (lv_room (Nat.le_of_ble_eq_true rfl)) dL_law_1501 ⟨by show cc0 + 2 ≤ 601024; omega, by show ss0 + 12 ≤ 7293034; omega⟩) (fun H locs hW hS => ?_)
  refine W.widen (k := cc0 + 12) (n := ss0 + 80) (by omega) (by omega) ?_
  refine lv_istore (lv' := [(6, .int k1), (0, .ref b), (1, .ref (ad 0)), (2, .ref (ad 112)), (3, .ref (ad 126)), (4, .ref (ad 127)), (5, .int x5)]) hx hb dL_law_1504 hl (by decide) rfl (fun ls hl => ?_)
  refine lv_aload_n hx hb dL_law_1506 rfl (lv_at hl 3 rfl) ?_
  refine lv_aload_n hx hb dL_law_1507 rfl (lv_at hl 1 rfl) ?_
  refine lv_iload hx hb dL_law_1508 (lv_at hl 6 rfl) ?_
  refine lv_iconst (v := 1) hx hb dL_law_1510 (by decide) ?_
  refine lv_iadd hx hb dL_law_1511 ?_
  refine va_sld hx hb hX hbl hbA hS hi1 dL_law_1512 ?_
  rw [hp1]
  refine z_calli hS (va_runV (As := [.int p1]) (rest := []) ⟨hx, hb, hml, hown, hts⟩ (m_X7_matched l hL N h2 H.size) (cwV 1 hts gL_law_X7_matched rfl rfl rfl (by decide +kernel) ⟨by decide +kernel, by decide +kernel⟩) (z_preV (q := (RX7, TX7, 20)) hK hL hE hW hS hKm (by decide) rfl [.int p1]) rfl rfl hl.1 rfl (lv_room (Nat.le_of_ble_eq_true rfl)) dL_law_1513 ⟨by show _ ≤ 601024; omega, by show _ ≤ 7293034; omega⟩) (fun H locs hW hS => ?_)
  refine lv_istore (lv' := [(7, .int bv), (6, .int k1), (0, .ref b), (1, .ref (ad 0)), (2, .ref (ad 112)), (3, .ref (ad 126)), (4, .ref (ad 127)), (5, .int x5)]) hx hb dL_law_1516 hl (by decide) rfl (fun ls hl => ?_)
  refine lv_aload_n hx hb dL_law_1518 rfl (lv_at hl 4 rfl) ?_
  refine z_calli hS (va_runV (As := []) (rest := []) ⟨hx, hb, hml, hown, hts⟩ (m_X7_thrown l hL N h3 H.size) (cwV 0 hts gL_law_X7_thrown rfl rfl rfl (by decide +kernel) ⟨by decide +kernel, by decide +kernel⟩) (z_preV (q := (RX7, TX7, 20)) hK hL hE hW hS hKm (by decide) rfl []) rfl rfl hl.1 rfl (lv_room (Nat.le_of_ble_eq_true rfl)) dL_law_1519 ⟨by show _ ≤ 601024; omega, by show _ ≤ 7293034; omega⟩) (fun H locs hW hS => ?_)
  refine lv_iload hx hb dL_law_1522 (lv_at hl 1 rfl) ?_
  refine lv_icmp_eq (tgt := 1529) hx hb dL_law_1524 (by decide) (fun _ => ?_) (fun c9 => absurd rfl c9)
  refine lv_iload hx hb dL_law_1529 (lv_at hl 1 rfl) ?_
  refine lv_if_ne (tgt := 1546) hx hb dL_law_1531 (by decide) (fun _ => ?_) (fun c8 => ?_)
  · skip
    refine lv_goto (tgt := 1739) hx hb dL_law_1546 (by decide) ?_
    refine W.widen (k := cc0 + 12) (n := ss0 + 80) (by omega) (by omega) ?_
    exact hk hI hW hS (lv_sub hl [2, 3, 4, 5, 6, 7] rfl)
  have h4 := h4 c8
  refine lv_aload_n hx hb dL_law_1534 rfl (lv_at hl 5 rfl) ?_
  refine lv_iconst (v := 0) hx hb dL_law_1535 (by decide) ?_
  refine z_lald hx hb hK hL hW hok dL_law_1536 ?_
  refine lv_iload hx hb dL_law_1537 (lv_at hl 0 rfl) ?_
  refine lv_i2l hx hb dL_law_1539 rfl ?_
  refine z_lc_eq (tgt := 1546) hx hb dL_law_1540 dL_law_1541 (by decide) (fun _ => ?_) (fun c9 => absurd h4 c9)
  refine lv_goto (tgt := 1739) hx hb dL_law_1546 (by decide) ?_
  refine W.widen (k := cc0 + 12) (n := ss0 + 80) (by omega) (by omega) ?_
  exact hk hI hW hS (lv_sub hl [2, 3, 4, 5, 6, 7] rfl)
set_option maxRecDepth 100000 in
set_option maxHeartbeats 4000000 in
theorem law_c19 {p : Program} {l : Launch} {e : Env} {s : State} {m : MethodId} {args : Array Value} {below : List Frame} {meth : Method} {c : Code} {D : va_G} {cy : Nat → ClassId} {ad : Nat → Nat} {L : List Nat} {K len : Nat → Nat} {Q : State → Prop} (hlt : l.stackTraces = false) (C0 : zCx p s m c meth args cL_law 9 wsL_law RL (some .boolean) D cy ad L K) {b Lx : Nat} {xs : Nat → Int32} (hX : va_X b Lx xs s s.heap) (hbl : b < s.heap.size) (hbA : ¬ (zA ad L s.heap.size) b) (N : Nat) {I : ZM → Prop} (hKx : K 0 = 7) (hKm : K 112 = 8) (hok : zok K len 126 12 0 = true) (hokD : zok K len 127 17 0 = true) {cc0 ss0 : Nat} (hcc : cc0 + 12 ≤ 601024) (hss : ss0 + 80 ≤ 7293034) {x5 : Int32} {p1 : Int32} (hi1 : vp_in (x5 + (1 : Int32)) Lx) (hp1 : xs (x5 + (1 : Int32)).toNatClampNeg = p1) {M M1 M2 : ZM} {k1 : Int32} {bv : Int32} (h1 : f_L_mend N K len 0 p1 126 M = some (k1, M1)) (h2 : f_X7_mend N K len 112 p1 M1 = some (bv, M2)) (h3 : f_X7_thrown N K len 112 M2 = some k1) (h4 : k1 = 0 → zJ M2 126 0 = bv.toInt64) (hI : I M2)
    (hk : ∀ {M : ZM}, I M → ∀ {H : Heap} {locs : List Loc} {ls : Array Slot}, zWd D cy ad L K len M H → va_S (zA ad L s.heap.size) s.heap H locs → lv_has ls 9 [(0, .ref b), (1, .ref (ad 0)), (2, .ref (ad 112)), (3, .ref (ad 126)), (4, .ref (ad 127)), (5, .int x5)] → W p l e room_1 s m args below meth c H locs (cc0 + 12) (ss0 + 80) Q (F0 m 1739 ls []))
    {H : Heap} {locs : List Loc} {ls : Array Slot} (hW : zWd D cy ad L K len M H) (hS : va_S (zA ad L s.heap.size) s.heap H locs) (hl : lv_has ls 9 [(0, .ref b), (1, .ref (ad 0)), (2, .ref (ad 112)), (3, .ref (ad 126)), (4, .ref (ad 127)), (5, .int x5)]) : W p l e room_1 s m args below meth c H locs cc0 ss0 Q (F0 m 1549 ls []) := by
  obtain ⟨hx, hb, hr, hml, hown, hts, hlocks, hK, hL, hE⟩ := id C0
  refine lv_aload_n hx hb dL_law_1549 rfl (lv_at hl 1 rfl) ?_
  refine lv_aload_n hx hb dL_law_1550 rfl (lv_at hl 0 rfl) ?_
  refine lv_iload hx hb dL_law_1551 (lv_at hl 5 rfl) ?_
  refine lv_iconst (v := 1) hx hb dL_law_1553 (by decide) ?_
  refine lv_iadd hx hb dL_law_1554 ?_
  refine va_sld hx hb hX hbl hbA hS hi1 dL_law_1555 ?_
  rw [hp1]
  refine lv_aload_n hx hb dL_law_1556 rfl (lv_at hl 3 rfl) ?_
  refine z_calli hS (vx_runSW (As := [.ref (ad 0), .int p1, .ref (ad 126)]) (rest := []) ⟨hx, hb, hml, hown, hts⟩ (m_L_mend l hlt hL N h1 H.size) (vx_cwSW (hh := [(0, 9, 12, 19), (0, 9, 15, 13)]) 3 hts gL_law_L_mend rfl rfl rfl (by decide +kernel) ⟨by decide +kernel, by decide +kernel⟩) (z_preS hK hE hW hS [.ref (ad 0), .int p1, .ref (ad 126)]) rfl rfl hl.1 rfl (lv_room (Nat.le_of_ble_eq_true rfl)) dL_law_1557 ⟨by show cc0 + 3 ≤ 601024; omega, by show ss0 + 18 ≤ 7293034; omega⟩) (fun H locs hW hS => ?_)
  refine W.widen (k := cc0 + 12) (n := ss0 + 80) (by omega) (by omega) ?_
  refine lv_istore (lv' := [(6, .int k1), (0, .ref b), (1, .ref (ad 0)), (2, .ref (ad 112)), (3, .ref (ad 126)), (4, .ref (ad 127)), (5, .int x5)]) hx hb dL_law_1560 hl (by decide) rfl (fun ls hl => ?_)
  refine lv_aload_n hx hb dL_law_1562 rfl (lv_at hl 3 rfl) ?_
  refine lv_aload_n hx hb dL_law_1563 rfl (lv_at hl 1 rfl) ?_
  refine lv_iload hx hb dL_law_1564 (lv_at hl 6 rfl) ?_
  refine lv_iconst (v := 1) hx hb dL_law_1566 (by decide) ?_
  refine lv_iadd hx hb dL_law_1567 ?_
  refine va_sld hx hb hX hbl hbA hS hi1 dL_law_1568 ?_
  rw [hp1]
  refine z_calli hS (va_runV (As := [.int p1]) (rest := []) ⟨hx, hb, hml, hown, hts⟩ (m_X7_mend l hL N h2 H.size) (cwV 1 hts gL_law_X7_mend rfl rfl rfl (by decide +kernel) ⟨by decide +kernel, by decide +kernel⟩) (z_preV (q := (RX7, TX7, 20)) hK hL hE hW hS hKm (by decide) rfl [.int p1]) rfl rfl hl.1 rfl (lv_room (Nat.le_of_ble_eq_true rfl)) dL_law_1569 ⟨by show _ ≤ 601024; omega, by show _ ≤ 7293034; omega⟩) (fun H locs hW hS => ?_)
  refine lv_istore (lv' := [(7, .int bv), (6, .int k1), (0, .ref b), (1, .ref (ad 0)), (2, .ref (ad 112)), (3, .ref (ad 126)), (4, .ref (ad 127)), (5, .int x5)]) hx hb dL_law_1572 hl (by decide) rfl (fun ls hl => ?_)
  refine lv_aload_n hx hb dL_law_1574 rfl (lv_at hl 4 rfl) ?_
  refine z_calli hS (va_runV (As := []) (rest := []) ⟨hx, hb, hml, hown, hts⟩ (m_X7_thrown l hL N h3 H.size) (cwV 0 hts gL_law_X7_thrown rfl rfl rfl (by decide +kernel) ⟨by decide +kernel, by decide +kernel⟩) (z_preV (q := (RX7, TX7, 20)) hK hL hE hW hS hKm (by decide) rfl []) rfl rfl hl.1 rfl (lv_room (Nat.le_of_ble_eq_true rfl)) dL_law_1575 ⟨by show _ ≤ 601024; omega, by show _ ≤ 7293034; omega⟩) (fun H locs hW hS => ?_)
  refine lv_iload hx hb dL_law_1578 (lv_at hl 1 rfl) ?_
  refine lv_icmp_eq (tgt := 1585) hx hb dL_law_1580 (by decide) (fun _ => ?_) (fun c9 => absurd rfl c9)
  refine lv_iload hx hb dL_law_1585 (lv_at hl 1 rfl) ?_
  refine lv_if_ne (tgt := 1602) hx hb dL_law_1587 (by decide) (fun _ => ?_) (fun c8 => ?_)
  · skip
    refine lv_goto (tgt := 1739) hx hb dL_law_1602 (by decide) ?_
    refine W.widen (k := cc0 + 12) (n := ss0 + 80) (by omega) (by omega) ?_
    exact hk hI hW hS (lv_sub hl [2, 3, 4, 5, 6, 7] rfl)
  have h4 := h4 c8
  refine lv_aload_n hx hb dL_law_1590 rfl (lv_at hl 5 rfl) ?_
  refine lv_iconst (v := 0) hx hb dL_law_1591 (by decide) ?_
  refine z_lald hx hb hK hL hW hok dL_law_1592 ?_
  refine lv_iload hx hb dL_law_1593 (lv_at hl 0 rfl) ?_
  refine lv_i2l hx hb dL_law_1595 rfl ?_
  refine z_lc_eq (tgt := 1602) hx hb dL_law_1596 dL_law_1597 (by decide) (fun _ => ?_) (fun c9 => absurd h4 c9)
  refine lv_goto (tgt := 1739) hx hb dL_law_1602 (by decide) ?_
  refine W.widen (k := cc0 + 12) (n := ss0 + 80) (by omega) (by omega) ?_
  exact hk hI hW hS (lv_sub hl [2, 3, 4, 5, 6, 7] rfl)
set_option maxRecDepth 100000 in
set_option maxHeartbeats 4000000 in
theorem law_c20 {p : Program} {l : Launch} {e : Env} {s : State} {m : MethodId} {args : Array Value} {below : List Frame} {meth : Method} {c : Code} {D : va_G} {cy : Nat → ClassId} {ad : Nat → Nat} {L : List Nat} {K len : Nat → Nat} {Q : State → Prop} (hlt : l.stackTraces = false) (C0 : zCx p s m c meth args cL_law 9 wsL_law RL (some .boolean) D cy ad L K) {b Lx : Nat} {xs : Nat → Int32} (hX : va_X b Lx xs s s.heap) (hbl : b < s.heap.size) (hbA : ¬ (zA ad L s.heap.size) b) (N : Nat) {I : ZM → Prop} (hKx : K 0 = 7) (hKm : K 112 = 8) (hok : zok K len 126 12 0 = true) (hokD : zok K len 127 17 0 = true) {cc0 ss0 : Nat} (hcc : cc0 + 12 ≤ 601024) (hss : ss0 + 80 ≤ 7293034) {x5 : Int32} {M M1 M2 : ZM} {k1 : Int32} {bv : Int32} (h1 : f_X6_steps N K len 0 M = some k1) (h2 : f_X7_steps N K len 112 M = some (bv, M2)) (h4 : k1 = bv) (hI : I M2)
    (hk : ∀ {M : ZM}, I M → ∀ {H : Heap} {locs : List Loc} {ls : Array Slot}, zWd D cy ad L K len M H → va_S (zA ad L s.heap.size) s.heap H locs → lv_has ls 9 [(0, .ref b), (1, .ref (ad 0)), (2, .ref (ad 112)), (3, .ref (ad 126)), (4, .ref (ad 127)), (5, .int x5)] → W p l e room_1 s m args below meth c H locs (cc0 + 12) (ss0 + 80) Q (F0 m 1739 ls []))
    {H : Heap} {locs : List Loc} {ls : Array Slot} (hW : zWd D cy ad L K len M H) (hS : va_S (zA ad L s.heap.size) s.heap H locs) (hl : lv_has ls 9 [(0, .ref b), (1, .ref (ad 0)), (2, .ref (ad 112)), (3, .ref (ad 126)), (4, .ref (ad 127)), (5, .int x5)]) : W p l e room_1 s m args below meth c H locs cc0 ss0 Q (F0 m 1605 ls []) := by
  obtain ⟨hx, hb, hr, hml, hown, hts, hlocks, hK, hL, hE⟩ := id C0
  refine lv_aload_n hx hb dL_law_1605 rfl (lv_at hl 1 rfl) ?_
  refine z_calli hS (va_runV (As := []) (rest := []) ⟨hx, hb, hml, hown, hts⟩ (m_X6_steps l hL N h1 H.size) (cwV 0 hts gL_law_X6_steps rfl rfl rfl (by decide +kernel) ⟨by decide +kernel, by decide +kernel⟩) (z_preV (q := (RX6, TX6, 7)) hK hL hE hW hS hKx (by decide) rfl []) rfl rfl hl.1 rfl (lv_room (Nat.le_of_ble_eq_true rfl)) dL_law_1606 ⟨by show _ ≤ 601024; omega, by show _ ≤ 7293034; omega⟩) (fun H locs hW hS => ?_)
  refine lv_aload_n hx hb dL_law_1609 rfl (lv_at hl 2 rfl) ?_
  refine z_calli hS (va_runV (As := []) (rest := [.int k1]) ⟨hx, hb, hml, hown, hts⟩ (m_X7_steps l hL N h2 H.size) (cwV 0 hts gL_law_X7_steps rfl rfl rfl (by decide +kernel) ⟨by decide +kernel, by decide +kernel⟩) (z_preV (q := (RX7, TX7, 20)) hK hL hE hW hS hKm (by decide) rfl []) rfl rfl hl.1 rfl (lv_room (Nat.le_of_ble_eq_true rfl)) dL_law_1610 ⟨by show _ ≤ 601024; omega, by show _ ≤ 7293034; omega⟩) (fun H locs hW hS => ?_)
  refine lv_icmp_eq (tgt := 1739) hx hb dL_law_1613 (by decide) (fun _ => ?_) (fun c9 => absurd h4 c9)
  refine W.widen (k := cc0 + 12) (n := ss0 + 80) (by omega) (by omega) ?_
  exact hk hI hW hS (lv_sub hl [0, 1, 2, 3, 4, 5] rfl)
set_option maxRecDepth 100000 in
set_option maxHeartbeats 4000000 in
theorem law_c21 {p : Program} {l : Launch} {e : Env} {s : State} {m : MethodId} {args : Array Value} {below : List Frame} {meth : Method} {c : Code} {D : va_G} {cy : Nat → ClassId} {ad : Nat → Nat} {L : List Nat} {K len : Nat → Nat} {Q : State → Prop} (hlt : l.stackTraces = false) (C0 : zCx p s m c meth args cL_law 9 wsL_law RL (some .boolean) D cy ad L K) {b Lx : Nat} {xs : Nat → Int32} (hX : va_X b Lx xs s s.heap) (hbl : b < s.heap.size) (hbA : ¬ (zA ad L s.heap.size) b) (N : Nat) {I : ZM → Prop} (hKx : K 0 = 7) (hKm : K 112 = 8) (hok : zok K len 126 12 0 = true) (hokD : zok K len 127 17 0 = true) {cc0 ss0 : Nat} (hcc : cc0 + 12 ≤ 601024) (hss : ss0 + 80 ≤ 7293034) {x5 : Int32} {p1 : Int32} (hi1 : vp_in (x5 + (1 : Int32)) Lx) (hp1 : xs (x5 + (1 : Int32)).toNatClampNeg = p1) {M M1 M2 : ZM} {k1 : Int32} {bv : UInt64} (h1 : f_L_average N K len 0 p1 127 M = some (k1, M1)) (h2 : f_X7_average N K len 112 p1 M1 = some (bv, M2)) (h3 : f_X7_thrown N K len 112 M2 = some k1) (h4 : k1 = 0 → zD M2 127 0 = bv) (hI : I M2)
    (hk : ∀ {M : ZM}, I M → ∀ {H : Heap} {locs : List Loc} {ls : Array Slot}, zWd D cy ad L K len M H → va_S (zA ad L s.heap.size) s.heap H locs → lv_has ls 9 [(0, .ref b), (1, .ref (ad 0)), (2, .ref (ad 112)), (3, .ref (ad 126)), (4, .ref (ad 127)), (5, .int x5)] → W p l e room_1 s m args below meth c H locs (cc0 + 12) (ss0 + 80) Q (F0 m 1739 ls []))
    {H : Heap} {locs : List Loc} {ls : Array Slot} (hW : zWd D cy ad L K len M H) (hS : va_S (zA ad L s.heap.size) s.heap H locs) (hl : lv_has ls 9 [(0, .ref b), (1, .ref (ad 0)), (2, .ref (ad 112)), (3, .ref (ad 126)), (4, .ref (ad 127)), (5, .int x5)]) : W p l e room_1 s m args below meth c H locs cc0 ss0 Q (F0 m 1618 ls []) := by
  obtain ⟨hx, hb, hr, hml, hown, hts, hlocks, hK, hL, hE⟩ := id C0
  refine lv_aload_n hx hb dL_law_1618 rfl (lv_at hl 1 rfl) ?_
  refine lv_aload_n hx hb dL_law_1619 rfl (lv_at hl 0 rfl) ?_
  refine lv_iload hx hb dL_law_1620 (lv_at hl 5 rfl) ?_
  refine lv_iconst (v := 1) hx hb dL_law_1622 (by decide) ?_
  refine lv_iadd hx hb dL_law_1623 ?_
  refine va_sld hx hb hX hbl hbA hS hi1 dL_law_1624 ?_
  rw [hp1]
  refine lv_aload hx hb dL_law_1625 (lv_at hl 4 rfl) ?_
  refine z_calli hS (vx_runSW (As := [.ref (ad 0), .int p1, .ref (ad 127)]) (rest := []) ⟨hx, hb, hml, hown, hts⟩ (m_L_average l hlt hL N h1 H.size) (vx_cwSW (hh := [(0, 8, 11, 19)]) 3 hts gL_law_L_average rfl rfl rfl (by decide +kernel) ⟨by decide +kernel, by decide +kernel⟩) (z_preS hK hE hW hS [.ref (ad 0), .int p1, .ref (ad 127)]) rfl rfl hl.1 rfl (lv_room (Nat.le_of_ble_eq_true rfl)) dL_law_1627 ⟨by show cc0 + 1 ≤ 601024; omega, by show ss0 + 6 ≤ 7293034; omega⟩) (fun H locs hW hS => ?_)
  refine W.widen (k := cc0 + 12) (n := ss0 + 80) (by omega) (by omega) ?_
  refine lv_istore (lv' := [(6, .int k1), (0, .ref b), (1, .ref (ad 0)), (2, .ref (ad 112)), (3, .ref (ad 126)), (4, .ref (ad 127)), (5, .int x5)]) hx hb dL_law_1630 hl (by decide) rfl (fun ls hl => ?_)
  refine lv_aload_n hx hb dL_law_1632 rfl (lv_at hl 3 rfl) ?_
  refine lv_aload_n hx hb dL_law_1633 rfl (lv_at hl 1 rfl) ?_
  refine lv_iload hx hb dL_law_1634 (lv_at hl 6 rfl) ?_
  refine lv_iconst (v := 1) hx hb dL_law_1636 (by decide) ?_
  refine lv_iadd hx hb dL_law_1637 ?_
  refine va_sld hx hb hX hbl hbA hS hi1 dL_law_1638 ?_
  rw [hp1]
  refine z_calld hS (va_runV (As := [.int p1]) (rest := []) ⟨hx, hb, hml, hown, hts⟩ (m_X7_average l hL N h2 H.size) (cwV 1 hts gL_law_X7_average rfl rfl rfl (by decide +kernel) ⟨by decide +kernel, by decide +kernel⟩) (z_preV (q := (RX7, TX7, 20)) hK hL hE hW hS hKm (by decide) rfl [.int p1]) rfl rfl hl.1 rfl (lv_room (Nat.le_of_ble_eq_true rfl)) dL_law_1639 ⟨by show _ ≤ 601024; omega, by show _ ≤ 7293034; omega⟩) (fun H locs hW hS => ?_)
  refine lv_dstore (lv' := [(7, .double bv), (6, .int k1), (0, .ref b), (1, .ref (ad 0)), (2, .ref (ad 112)), (3, .ref (ad 126)), (4, .ref (ad 127)), (5, .int x5)]) hx hb dL_law_1642 hl (by decide) rfl (fun ls hl => ?_)
  refine lv_aload_n hx hb dL_law_1644 rfl (lv_at hl 4 rfl) ?_
  refine z_calli hS (va_runV (As := []) (rest := []) ⟨hx, hb, hml, hown, hts⟩ (m_X7_thrown l hL N h3 H.size) (cwV 0 hts gL_law_X7_thrown rfl rfl rfl (by decide +kernel) ⟨by decide +kernel, by decide +kernel⟩) (z_preV (q := (RX7, TX7, 20)) hK hL hE hW hS hKm (by decide) rfl []) rfl rfl hl.1 rfl (lv_room (Nat.le_of_ble_eq_true rfl)) dL_law_1645 ⟨by show _ ≤ 601024; omega, by show _ ≤ 7293034; omega⟩) (fun H locs hW hS => ?_)
  refine lv_iload hx hb dL_law_1648 (lv_at hl 1 rfl) ?_
  refine lv_icmp_eq (tgt := 1655) hx hb dL_law_1650 (by decide) (fun _ => ?_) (fun c9 => absurd rfl c9)
  refine lv_iload hx hb dL_law_1655 (lv_at hl 1 rfl) ?_
  refine lv_if_ne (tgt := 1692) hx hb dL_law_1657 (by decide) (fun _ => ?_) (fun c8 => ?_)
  · skip
    refine lv_goto (tgt := 1739) hx hb dL_law_1692 (by decide) ?_
    refine W.widen (k := cc0 + 12) (n := ss0 + 80) (by omega) (by omega) ?_
    exact hk hI hW hS (lv_sub hl [2, 3, 4, 5, 6, 7] rfl)
  have h4 := h4 c8
  refine lv_aload hx hb dL_law_1660 (lv_at hl 6 rfl) ?_
  refine lv_iconst (v := 0) hx hb dL_law_1662 (by decide) ?_
  refine z_dald hx hb hK hL hW hokD dL_law_1663 ?_
  rw [show zD M2 127 (0 : Int32).toNatClampNeg = bv from h4]
  refine lv_dload hx hb dL_law_1664 (lv_at hl 0 rfl) ?_
  refine lv_dcmp hx hb dL_law_1666 ?_
  rcases (Decidable.em (Op.cmpValue (FP.dcmp bv bv) CmpOp.l = 0)) with cn | cn
  · refine lv_if_eq (tgt := 1692) hx hb dL_law_1667 (by decide) (fun _ => ?_) (fun c9 => absurd cn c9)
    refine lv_goto (tgt := 1739) hx hb dL_law_1692 (by decide) ?_
    refine W.widen (k := cc0 + 12) (n := ss0 + 80) (by omega) (by omega) ?_
    exact hk hI hW hS (lv_sub hl [2, 3, 4, 5, 6, 7] rfl)
  refine lv_if_eq (tgt := 1692) hx hb dL_law_1667 (by decide) (fun c9 => absurd c9 cn) (fun _ => ?_)
  refine lv_aload hx hb dL_law_1670 (lv_at hl 6 rfl) ?_
  refine lv_iconst (v := 0) hx hb dL_law_1672 (by decide) ?_
  refine z_dald hx hb hK hL hW hokD dL_law_1673 ?_
  rw [show zD M2 127 (0 : Int32).toNatClampNeg = bv from h4]
  refine lv_aload hx hb dL_law_1674 (lv_at hl 6 rfl) ?_
  refine lv_iconst (v := 0) hx hb dL_law_1676 (by decide) ?_
  refine z_dald hx hb hK hL hW hokD dL_law_1677 ?_
  rw [show zD M2 127 (0 : Int32).toNatClampNeg = bv from h4]
  refine lv_dcmp hx hb dL_law_1678 ?_
  refine lv_if_eq (tgt := 1690) hx hb dL_law_1679 (by decide) (fun c9 => absurd c9 cn) (fun _ => ?_)
  refine lv_dload hx hb dL_law_1682 (lv_at hl 0 rfl) ?_
  refine lv_dload hx hb dL_law_1684 (lv_at hl 0 rfl) ?_
  refine lv_dcmp hx hb dL_law_1686 ?_
  refine lv_if_ne (tgt := 1692) hx hb dL_law_1687 (by decide) (fun _ => ?_) (fun c9 => absurd c9 cn)
  refine lv_goto (tgt := 1739) hx hb dL_law_1692 (by decide) ?_
  refine W.widen (k := cc0 + 12) (n := ss0 + 80) (by omega) (by omega) ?_
  exact hk hI hW hS (lv_sub hl [2, 3, 4, 5, 6, 7] rfl)
set_option maxRecDepth 100000 in
set_option maxHeartbeats 4000000 in
theorem law_c22 {p : Program} {l : Launch} {e : Env} {s : State} {m : MethodId} {args : Array Value} {below : List Frame} {meth : Method} {c : Code} {D : va_G} {cy : Nat → ClassId} {ad : Nat → Nat} {L : List Nat} {K len : Nat → Nat} {Q : State → Prop} (hlt : l.stackTraces = false) (C0 : zCx p s m c meth args cL_law 9 wsL_law RL (some .boolean) D cy ad L K) {b Lx : Nat} {xs : Nat → Int32} (hX : va_X b Lx xs s s.heap) (hbl : b < s.heap.size) (hbA : ¬ (zA ad L s.heap.size) b) (N : Nat) {I : ZM → Prop} (hKx : K 0 = 7) (hKm : K 112 = 8) (hok : zok K len 126 12 0 = true) (hokD : zok K len 127 17 0 = true) {cc0 ss0 : Nat} (hcc : cc0 + 12 ≤ 601024) (hss : ss0 + 80 ≤ 7293034) {x5 : Int32} {M M1 M2 : ZM} {k1 : Int32} {bv : Int32} (h1 : f_L_rollBack N K len 0  126 M = some (k1, M1)) (h2 : f_X7_rollBack N K len 112  M1 = some (bv, M2)) (h3 : f_X7_thrown N K len 112 M2 = some k1) (h4 : k1 = 0 → zJ M2 126 0 = bv.toInt64) (hI : I M2)
    (hk : ∀ {M : ZM}, I M → ∀ {H : Heap} {locs : List Loc} {ls : Array Slot}, zWd D cy ad L K len M H → va_S (zA ad L s.heap.size) s.heap H locs → lv_has ls 9 [(0, .ref b), (1, .ref (ad 0)), (2, .ref (ad 112)), (3, .ref (ad 126)), (4, .ref (ad 127)), (5, .int x5)] → W p l e room_1 s m args below meth c H locs (cc0 + 12) (ss0 + 80) Q (F0 m 1739 ls []))
    {H : Heap} {locs : List Loc} {ls : Array Slot} (hW : zWd D cy ad L K len M H) (hS : va_S (zA ad L s.heap.size) s.heap H locs) (hl : lv_has ls 9 [(0, .ref b), (1, .ref (ad 0)), (2, .ref (ad 112)), (3, .ref (ad 126)), (4, .ref (ad 127)), (5, .int x5)]) : W p l e room_1 s m args below meth c H locs cc0 ss0 Q (F0 m 1695 ls []) := by
  obtain ⟨hx, hb, hr, hml, hown, hts, hlocks, hK, hL, hE⟩ := id C0
  refine lv_aload_n hx hb dL_law_1695 rfl (lv_at hl 1 rfl) ?_
  refine lv_aload_n hx hb dL_law_1696 rfl (lv_at hl 3 rfl) ?_
  refine z_calli hS (vx_runSW (As := [.ref (ad 0), .ref (ad 126)]) (rest := []) ⟨hx, hb, hml, hown, hts⟩ (m_L_rollBack l hlt hL N h1 H.size) (vx_cwSW (hh := [(0, 8, 11, 13)]) 2 hts gL_law_L_rollBack rfl rfl rfl (by decide +kernel) ⟨by decide +kernel, by decide +kernel⟩) (z_preS hK hE hW hS [.ref (ad 0), .ref (ad 126)]) rfl rfl hl.1 rfl (lv_room (Nat.le_of_ble_eq_true rfl)) dL_law_1697 ⟨by show cc0 + 1 ≤ 601024; omega, by show ss0 + 6 ≤ 7293034; omega⟩) (fun H locs hW hS => ?_)
  refine W.widen (k := cc0 + 12) (n := ss0 + 80) (by omega) (by omega) ?_
  refine lv_istore (lv' := [(6, .int k1), (0, .ref b), (1, .ref (ad 0)), (2, .ref (ad 112)), (3, .ref (ad 126)), (4, .ref (ad 127)), (5, .int x5)]) hx hb dL_law_1700 hl (by decide) rfl (fun ls hl => ?_)
  refine lv_aload_n hx hb dL_law_1702 rfl (lv_at hl 3 rfl) ?_
  refine z_calli hS (va_runV (As := []) (rest := []) ⟨hx, hb, hml, hown, hts⟩ (m_X7_rollBack l hL N h2 H.size) (cwV 0 hts gL_law_X7_rollBack rfl rfl rfl (by decide +kernel) ⟨by decide +kernel, by decide +kernel⟩) (z_preV (q := (RX7, TX7, 20)) hK hL hE hW hS hKm (by decide) rfl []) rfl rfl hl.1 rfl (lv_room (Nat.le_of_ble_eq_true rfl)) dL_law_1703 ⟨by show _ ≤ 601024; omega, by show _ ≤ 7293034; omega⟩) (fun H locs hW hS => ?_)
  refine lv_istore (lv' := [(7, .int bv), (6, .int k1), (0, .ref b), (1, .ref (ad 0)), (2, .ref (ad 112)), (3, .ref (ad 126)), (4, .ref (ad 127)), (5, .int x5)]) hx hb dL_law_1706 hl (by decide) rfl (fun ls hl => ?_)
  refine lv_aload_n hx hb dL_law_1708 rfl (lv_at hl 4 rfl) ?_
  refine z_calli hS (va_runV (As := []) (rest := []) ⟨hx, hb, hml, hown, hts⟩ (m_X7_thrown l hL N h3 H.size) (cwV 0 hts gL_law_X7_thrown rfl rfl rfl (by decide +kernel) ⟨by decide +kernel, by decide +kernel⟩) (z_preV (q := (RX7, TX7, 20)) hK hL hE hW hS hKm (by decide) rfl []) rfl rfl hl.1 rfl (lv_room (Nat.le_of_ble_eq_true rfl)) dL_law_1709 ⟨by show _ ≤ 601024; omega, by show _ ≤ 7293034; omega⟩) (fun H locs hW hS => ?_)
  refine lv_iload hx hb dL_law_1712 (lv_at hl 1 rfl) ?_
  refine lv_icmp_eq (tgt := 1719) hx hb dL_law_1714 (by decide) (fun _ => ?_) (fun c9 => absurd rfl c9)
  refine lv_iload hx hb dL_law_1719 (lv_at hl 1 rfl) ?_
  refine lv_if_ne (tgt := 1736) hx hb dL_law_1721 (by decide) (fun _ => ?_) (fun c8 => ?_)
  · skip
    refine lv_goto (tgt := 1739) hx hb dL_law_1736 (by decide) ?_
    refine W.widen (k := cc0 + 12) (n := ss0 + 80) (by omega) (by omega) ?_
    exact hk hI hW hS (lv_sub hl [2, 3, 4, 5, 6, 7] rfl)
  have h4 := h4 c8
  refine lv_aload_n hx hb dL_law_1724 rfl (lv_at hl 5 rfl) ?_
  refine lv_iconst (v := 0) hx hb dL_law_1725 (by decide) ?_
  refine z_lald hx hb hK hL hW hok dL_law_1726 ?_
  refine lv_iload hx hb dL_law_1727 (lv_at hl 0 rfl) ?_
  refine lv_i2l hx hb dL_law_1729 rfl ?_
  refine z_lc_eq (tgt := 1736) hx hb dL_law_1730 dL_law_1731 (by decide) (fun _ => ?_) (fun c9 => absurd h4 c9)
  refine lv_goto (tgt := 1739) hx hb dL_law_1736 (by decide) ?_
  refine W.widen (k := cc0 + 12) (n := ss0 + 80) (by omega) (by omega) ?_
  exact hk hI hW hS (lv_sub hl [2, 3, 4, 5, 6, 7] rfl)
